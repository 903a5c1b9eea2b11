import java.util.ArrayDeque;
import java.util.ArrayList;
import java.util.NoSuchElementException;
import java.util.Random;

/** Random calls on the class and on a slow model that keeps every BEAT's level as a list. */
public final class ModelTests {
    private static final int RUNS = 1500;
    private static final int CALLS = 512;

    public static void main(String[] args) {
        int wrong = 0;
        for (int seed = 1; seed <= RUNS; seed++) {
            String fault = compare(seed);
            if (fault != null) {
                wrong++;
                System.out.println("seed " + seed + ": " + fault);
            }
        }
        System.out.println(wrong == 0 ? "all answers are as due" : wrong + " runs are not as due");
        if (wrong != 0) {
            System.exit(1);
        }
    }

    private static String compare(int seed) {
        Random random = new Random(seed);
        Calls calls = new Calls(random, seed % 4);
        SerialPort port = new SerialPort();
        Model model = new Model();
        for (int i = 0; i < CALLS; i++) {
            int[] call = calls.next();
            long got = onPort(port, call);
            long want = onModel(model, call);
            if (got != want) {
                return "call " + i + " " + java.util.Arrays.toString(call) + " answered " + got + ", due is " + want;
            }
        }
        return null;
    }

    private static final long THROWN = Long.MIN_VALUE;

    private static long onPort(SerialPort x, int[] c) {
        try {
            switch (c[0]) {
                case 0: x.write(c[1], c[2]); return 0;
                case 1: return x.read(c[1]);
                case 2: return x.clock(c[1]);
                case 3: return x.wave(c[1] != 0, c[2]);
                case 4: return x.frame(c[1], c[2]);
                case 5: return x.inputs(c[1]) ? 1 : 0;
                case 6: x.reset(); return 0;
                case 7: return x.count(c[1]);
                default: return x.run(c[1], c[2]);
            }
        } catch (NoSuchElementException e) {
            return THROWN;
        }
    }

    private static long onModel(Model x, int[] c) {
        switch (c[0]) {
            case 0: return x.write(c[1], c[2]) ? 0 : THROWN;
            case 1: return x.read(c[1]);
            case 2: return x.clock(c[1]);
            case 3: return x.wave(c[1] != 0, c[2]);
            case 4: return x.frame(c[1], c[2]);
            case 5: return x.inputs(c[1]) ? 1 : 0;
            case 6: x.start(); return 0;
            case 7: return x.count(c[1]);
            default: return x.run(c[1], c[2]);
        }
    }

    /** Chooses calls so that ports are mostly set up well, and wrong ones come now and then. */
    private static final class Calls {
        private final Random random;
        private final int kind;
        private final ArrayDeque<int[]> planned = new ArrayDeque<>();

        Calls(Random random, int kind) {
            this.random = random;
            this.kind = kind;
            plan(0, 1, 15);
            if (kind >= 2) {
                plan(0, 2, 1 | random.nextInt(4) << 6);
            }
            planLine();
        }

        private void plan(int... call) {
            planned.add(new int[] {call[0], call.length > 1 ? call[1] : 0, call.length > 2 ? call[2] : 0});
        }

        private void planLine() {
            plan(0, 3, 128);
            plan(0, 0, random.nextInt(8) == 0 ? random.nextInt(4) : 1);
            plan(0, 1, random.nextInt(60) == 0 ? 1 : 0);
            plan(0, 3, lineControl());
        }

        private int lineControl() {
            int control = random.nextInt(64);
            if (kind == 3) {
                control = 3;
            }
            return random.nextInt(12) == 0 ? control | 64 : control;
        }

        int[] next() {
            if (planned.isEmpty()) {
                choose();
            }
            return planned.poll();
        }

        private void choose() {
            int which = random.nextInt(100);
            if (which < 22) {
                plan(2, clocks());
            } else if (which < 36) {
                plan(1, random.nextInt(300) == 0 ? odd() : random.nextInt(8));
            } else if (which < 42) {
                plan(1, random.nextBoolean() ? 5 : 2);
            } else if (which < 52) {
                plan(0, 0, random.nextInt(256));
            } else if (which < 62) {
                plan(4, random.nextInt(4) == 0 ? 0 : random.nextInt(512) - 128, flip());
            } else if (which < 67) {
                plan(3, random.nextInt(2), waveBeats());
            } else if (which < 71) {
                plan(5, random.nextInt(30) == 0 ? odd() : random.nextInt(16));
            } else if (which < 88) {
                plan(7, random.nextInt(60) == 0 ? odd() : random.nextInt(9));
            } else if (which < 94) {
                plan(8, random.nextInt(20) == 0 ? odd() : random.nextInt(random.nextInt(45) + 1), random.nextInt(random.nextInt(9) + 2));
            } else {
                chooseControl();
            }
        }

        private void chooseControl() {
            int which = random.nextInt(20);
            if (which < 5) {
                plan(0, 1, random.nextInt(16));
            } else if (which < 8) {
                plan(0, 2, random.nextInt(6) == 0 ? random.nextInt(256) : 1 | random.nextInt(4) << 6);
            } else if (which < 12) {
                plan(0, 3, lineControl());
            } else if (which < 15) {
                plan(0, 4, random.nextInt(32));
            } else if (which < 16) {
                plan(0, 4, 0);
            } else if (which < 17) {
                planLine();
            } else if (which < 18) {
                plan(0, random.nextInt(3) + 5, random.nextInt());
            } else if (which < 19) {
                plan(0, odd(), 1);
            } else if (random.nextInt(3) == 0) {
                plan(6);
                planLine();
            }
            if (planned.isEmpty()) {
                plan(2, 1);
            }
        }

        private int clocks() {
            switch (random.nextInt(12)) {
                case 0: return 1;
                case 1: return random.nextInt(10);
                case 2: return random.nextInt(2000);
                case 3: return random.nextInt(40) == 0 ? odd() : 640;
                case 4: return 160;
                case 5: return 8;
                default: return random.nextInt(200);
            }
        }

        private int flip() {
            return random.nextInt(3) == 0 ? random.nextInt(16) - 1 : -1;
        }

        private int waveBeats() {
            switch (random.nextInt(10)) {
                case 0: return odd();
                case 1: return random.nextInt(400);
                default: return 1 + random.nextInt(30);
            }
        }

        private int odd() {
            int[] odd = {-1, Integer.MIN_VALUE, Integer.MAX_VALUE, 0, 8, 9, 16, 40, 4000, 4001, 60001};
            return odd[random.nextInt(odd.length)];
        }
    }

    /** The document, in the plainest form: a FRAME is the list of its BEATS' levels. */
    private static final class Model {
        int divisor, clocks, wanted, three, four, seven, level, pins, seen, changes, beats, cameAt, inAll;
        boolean rows, overrun, empty, late, in, armed;
        ArrayList<int[]> received;
        ArrayList<Integer> sending;
        ArrayList<int[]> wave;
        ArrayDeque<Boolean> toSend;
        ArrayList<Boolean> sampled;
        int sampledBy;
        ArrayList<Boolean> out;

        Model() {
            start();
        }

        void start() {
            divisor = clocks = wanted = three = four = seven = pins = seen = changes = beats = cameAt = inAll = 0;
            level = 1;
            rows = overrun = empty = late = false;
            in = armed = true;
            received = new ArrayList<>();
            sending = new ArrayList<>();
            wave = new ArrayList<>();
            toSend = new ArrayDeque<>();
            sampled = null;
            out = new ArrayList<>();
        }

        /** The levels of a FRAME, one a bit, without the STOP. */
        static ArrayList<Boolean> bits(int three, int character) {
            ArrayList<Boolean> list = new ArrayList<>();
            list.add(false);
            int ones = 0;
            for (int k = 0; k < (three & 3) + 5; k++) {
                int bit = character >>> k & 1;
                ones += bit;
                list.add(bit == 1);
            }
            if ((three & 8) != 0) {
                list.add(parity(three, ones));
            }
            return list;
        }

        static boolean parity(int three, int ones) {
            switch (three >> 4 & 3) {
                case 0: return ones % 2 == 0;
                case 1: return ones % 2 == 1;
                case 2: return true;
                default: return false;
            }
        }

        static int stop(int three) {
            int[] stops = {16, 16, 16, 16, 24, 32, 32, 32};
            return stops[three & 7];
        }

        static int length(int three) {
            return bits(three, 0).size() * 16 + stop(three);
        }

        boolean write(int r, int v) {
            if (r < 0 || r > 7) {
                return false;
            }
            v = v & 255;
            boolean dlab = three >= 128;
            if (dlab && r < 2) {
                int low = r == 0 ? v : divisor % 256;
                int high = r == 1 ? v : divisor / 256;
                divisor = high * 256 + low;
                clocks = 0;
            } else if (r == 0) {
                empty = false;
                if (!rows) {
                    sending.clear();
                }
                if (sending.size() < 16) {
                    sending.add(v);
                }
            } else if (r == 1) {
                if (wanted / 2 % 2 == 0 && v / 2 % 2 == 1 && sending.isEmpty()) {
                    empty = true;
                }
                wanted = v % 16;
            } else if (r == 2) {
                writeTwo(v);
            } else if (r == 3) {
                three = v;
            } else if (r == 4) {
                four = v % 32;
                look();
            } else if (r == 7) {
                seven = v;
            }
            return true;
        }

        void writeTwo(int v) {
            boolean before = rows;
            rows = v % 2 == 1;
            boolean r = before != rows;
            boolean s = r;
            if (rows) {
                r = r || v / 2 % 2 == 1;
                s = s || v / 4 % 2 == 1;
                level = new int[] {1, 4, 8, 14}[v / 64];
            }
            if (r) {
                received.clear();
                late = false;
            }
            if (s) {
                sending.clear();
            }
        }

        void look() {
            boolean[] now = new boolean[4];
            for (int k = 0; k < 4; k++) {
                now[k] = (pins >> k & 1) == 1;
            }
            if (four >= 16) {
                now = new boolean[] {(four & 2) != 0, (four & 1) != 0, (four & 4) != 0, (four & 8) != 0};
            }
            int next = 0;
            for (int k = 0; k < 4; k++) {
                boolean was = (seen >> k & 1) == 1;
                if (was != now[k] && !(k == 2 && now[k])) {
                    changes |= 1 << k;
                }
                next |= now[k] ? 1 << k : 0;
            }
            seen = next;
        }

        long read(int r) {
            if (r < 0 || r > 7) {
                return THROWN;
            }
            if (three >= 128 && r < 2) {
                return r == 0 ? divisor % 256 : divisor / 256;
            }
            switch (r) {
                case 0: return readZero();
                case 1: return wanted;
                case 2: return readTwo();
                case 3: return three;
                case 4: return four;
                case 5: return readFive();
                case 6:
                    int six = seen * 16 + changes;
                    changes = 0;
                    return six;
                default: return seven;
            }
        }

        int readZero() {
            late = false;
            cameAt = beats;
            return received.isEmpty() ? 0 : received.remove(0)[0];
        }

        int readTwo() {
            int reason = reason();
            if (reason == 2) {
                empty = false;
            }
            return reason + (rows ? 192 : 0);
        }

        int readFive() {
            int told = 0;
            if (!received.isEmpty()) {
                told = 1 + received.get(0)[1];
            }
            if (overrun) {
                told += 2;
            }
            if (sending.isEmpty()) {
                told += toSend.isEmpty() ? 96 : 32;
            }
            if (rows && received.stream().anyMatch(c -> c[1] != 0)) {
                told += 128;
            }
            overrun = false;
            if (!received.isEmpty()) {
                received.get(0)[1] = 0;
            }
            return told;
        }

        int reason() {
            boolean[] up = {
                overrun || !received.isEmpty() && received.get(0)[1] != 0,
                rows ? received.size() >= level : received.size() == 1,
                rows && late,
                empty,
                changes > 0
            };
            int[] bit = {4, 1, 1, 2, 8};
            int[] told = {6, 4, 12, 2, 0};
            for (int k = 0; k < 5; k++) {
                if (up[k] && (wanted & bit[k]) != 0) {
                    return told[k];
                }
            }
            return 1;
        }

        int clock(int n) {
            if (n < 0 || n > 60000) {
                return -1;
            }
            int went = 0;
            for (int i = 0; i < n && divisor > 0; i++) {
                clocks++;
                if (clocks == divisor) {
                    clocks = 0;
                    went++;
                    beat();
                }
            }
            return went;
        }

        void beat() {
            beats++;
            if (toSend.isEmpty() && !sending.isEmpty()) {
                int character = sending.remove(0);
                if (sending.isEmpty()) {
                    empty = true;
                }
                for (boolean high : bits(three, character)) {
                    for (int k = 0; k < 16; k++) {
                        toSend.add(high);
                    }
                }
                for (int k = 0; k < stop(three); k++) {
                    toSend.add(true);
                }
            }
            boolean sent = toSend.isEmpty() ? true : toSend.poll();
            boolean looped = four >= 16;
            boolean broken = (three & 64) != 0;
            boolean goes = looped ? true : broken ? false : sent;
            if (out.isEmpty() || out.get(out.size() - 1) != goes) {
                inAll++;
            }
            out.add(goes);
            if (!wave.isEmpty()) {
                in = wave.get(0)[0] == 1;
                wave.get(0)[1]--;
                if (wave.get(0)[1] == 0) {
                    wave.remove(0);
                }
            }
            receive(looped ? sent : in);
            if (!received.isEmpty() && beats >= cameAt + 4 * length(three)) {
                late = true;
            }
        }

        void receive(boolean high) {
            if (sampled == null) {
                if (!high && armed) {
                    sampled = new ArrayList<>();
                    sampled.add(false);
                    sampledBy = three;
                }
                armed = armed || high;
                return;
            }
            sampled.add(high);
            if (sampled.size() == 8 && high) {
                sampled = null;
                return;
            }
            int bits = bits(sampledBy, 0).size();
            if (sampled.size() == bits * 16 + 8) {
                come(bits);
            }
        }

        void come(int bits) {
            int character = 0;
            int ones = 0;
            int highs = 0;
            int data = (sampledBy & 3) + 5;
            for (int k = 1; k <= bits; k++) {
                boolean high = sampled.get(16 * k + 7);
                highs += high ? 1 : 0;
                if (k <= data && high) {
                    character += 1 << k - 1;
                    ones++;
                }
            }
            boolean stop = sampled.get(16 * bits + 7);
            int faults = stop ? 0 : 8;
            faults += highs == 0 ? 16 : 0;
            if ((sampledBy & 8) != 0 && sampled.get(16 * (data + 1) + 7) != parity(sampledBy, ones)) {
                faults += 4;
            }
            sampled = null;
            armed = stop;
            cameAt = beats;
            if (received.size() == (rows ? 16 : 1)) {
                overrun = true;
                if (rows) {
                    return;
                }
                received.clear();
            }
            received.add(new int[] {character, faults});
        }

        int wave(boolean high, int many) {
            if (many < 1 || many > 4000 || wave.size() == 500) {
                return -1;
            }
            wave.add(new int[] {high ? 1 : 0, many});
            return wave.size();
        }

        int frame(int character, int flip) {
            ArrayList<Boolean> bits = bits(three, character);
            if (wave.size() + bits.size() + 1 > 500) {
                return -1;
            }
            bits.add(true);
            if (flip >= 0 && flip < bits.size()) {
                bits.set(flip, !bits.get(flip));
            }
            for (int k = 0; k < bits.size(); k++) {
                wave(bits.get(k), k == bits.size() - 1 ? stop(three) : 16);
            }
            return bits.size();
        }

        boolean inputs(int bits) {
            if (bits < 0 || bits > 15) {
                return false;
            }
            pins = bits;
            look();
            return true;
        }

        int count(int what) {
            int[] counts = {received.size(), sending.size(), beats, reason() == 1 ? 0 : 1,
                out.isEmpty() || out.get(out.size() - 1) ? 1 : 0, wave.size(), inAll,
                toSend.isEmpty() ? 0 : 1, sampled == null ? 0 : 1};
            return what < 0 || what > 8 ? -1 : counts[what];
        }

        int run(int i, int what) {
            if (i < 0 || i > 39 || i >= inAll || what < 0 || what > 1) {
                return -1;
            }
            int end = out.size();
            for (int skipped = 0; ; skipped++) {
                boolean high = out.get(end - 1);
                int begin = end;
                while (begin > 0 && out.get(begin - 1) == high) {
                    begin--;
                }
                if (skipped == i) {
                    return what == 0 ? (high ? 1 : 0) : end - begin;
                }
                end = begin;
            }
        }
    }
}
