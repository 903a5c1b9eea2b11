import java.lang.reflect.Modifier;
import java.util.NoSuchElementException;
import java.util.TreeSet;

/** Promise by promise: ordinary inputs, the edges that the document names, wrong inputs. */
public final class PromiseTests {
    private static int wrong = 0;
    private static String part = "";

    public static void main(String[] args) {
        theFace();
        aNewObject();
        writeAndReadRegisters();
        writeAndReadNoSuchRegister();
        divisorBytes();
        sendingRow();
        receivedRow();
        rowControl();
        lineState();
        reasonsByRank();
        reasonEmpty();
        reasonLate();
        clockDivides();
        senderFrames();
        senderBreak();
        receiverSamples();
        receiverFaults();
        receiverIdle();
        waves();
        frames();
        inputsAndModem();
        loop();
        resets();
        counts();
        runs();
        readmeExample();
        System.out.println(wrong == 0 ? "all answers are as due" : wrong + " answers are not as due");
        if (wrong != 0) {
            System.exit(1);
        }
    }

    private static void due(String call, long got, long want) {
        if (got != want) {
            wrong++;
            System.out.println(part + ": " + call + " answered " + got + ", due is " + want);
        }
    }

    private static void due(String call, boolean got, boolean want) {
        due(call, got ? 1 : 0, want ? 1 : 0);
    }

    private static void dueNoSuch(String call, Runnable action) {
        int thrown = 0;
        try {
            action.run();
        } catch (NoSuchElementException e) {
            thrown = 1;
        }
        due(call + " throws NoSuchElementException", thrown, 1);
    }

    /** A port whose every CLOCK is a BEAT, with register 3 as given. */
    private static SerialPort port(int lineControl) {
        SerialPort x = new SerialPort();
        setLine(x, 1, lineControl);
        return x;
    }

    private static void setLine(SerialPort x, int divisor, int lineControl) {
        x.write(3, 128);
        x.write(0, divisor & 255);
        x.write(1, divisor >> 8);
        x.write(3, lineControl);
    }

    /** Brings characters 1 .. n into RECEIVED, 8 bits without parity, back to back. */
    private static void bring(SerialPort x, int n) {
        for (int i = 1; i <= n; i++) {
            x.frame(i, -1);
            x.clock(160);
        }
    }

    private static void theFace() {
        part = "face";
        TreeSet<String> names = new TreeSet<>();
        for (var m : SerialPort.class.getDeclaredMethods()) {
            if (!Modifier.isPrivate(m.getModifiers())) {
                names.add(m.getName());
            }
        }
        for (var f : SerialPort.class.getDeclaredFields()) {
            if (!Modifier.isPrivate(f.getModifiers())) {
                names.add(f.getName());
            }
        }
        due("visible members are the document's " + names,
            names.toString().equals("[NONE, clock, count, frame, inputs, read, reset, run, wave, write]"), true);
        due("class is final", Modifier.isFinal(SerialPort.class.getModifiers()), true);
        due("NONE", SerialPort.NONE, -1);
    }

    private static void dueAtFirst(SerialPort x) {
        int[] registers = {0, 0, 1, 0, 0, 96, 0, 0};
        for (int r = 0; r < 8; r++) {
            due("read(" + r + ")", x.read(r), registers[r]);
        }
        int[] counts = {0, 0, 0, 0, 1, 0, 0, 0, 0};
        for (int what = 0; what < 9; what++) {
            due("count(" + what + ")", x.count(what), counts[what]);
        }
        due("run(0, 0)", x.run(0, 0), -1);
        due("clock(60000)", x.clock(60000), 0);
        x.write(3, 128);
        due("read(0) of the DIVISOR", x.read(0), 0);
        due("read(1) of the DIVISOR", x.read(1), 0);
    }

    private static void aNewObject() {
        part = "promise 1";
        dueAtFirst(new SerialPort());
        SerialPort x = port(3);
        x.clock(1);
        due("the line is high at first: count(8)", x.count(8), 0);
        x.write(2, 1);
        x.write(1, 1);
        bring(x, 1);
        due("the LEVEL is 1: read(2)", x.read(2), 196);
        SerialPort a = new SerialPort();
        SerialPort b = new SerialPort();
        a.write(7, 9);
        due("objects are their own: read(7)", b.read(7), 0);
    }

    private static void writeAndReadRegisters() {
        part = "promises 2, 3";
        SerialPort x = new SerialPort();
        x.write(1, 0x1FF);
        due("read(1)", x.read(1), 15);
        x.write(3, 0x17F);
        due("read(3)", x.read(3), 0x7F);
        x.write(3, -1);
        due("read(3)", x.read(3), 255);
        x.write(3, 256);
        due("read(3)", x.read(3), 0);
        x.write(4, 0xEF);
        due("read(4)", x.read(4), 15);
        x.write(4, 0xFF);
        due("read(4)", x.read(4), 31);
        x.write(7, Integer.MIN_VALUE + 0x1AB);
        due("read(7)", x.read(7), 0xAB);
        x.write(5, 255);
        due("read(5)", x.read(5), 96);
        x.write(4, 0);
        x.read(6);
        x.write(6, 255);
        due("read(6)", x.read(6), 0);
    }

    private static void writeAndReadNoSuchRegister() {
        part = "promises 2, 3, none such";
        SerialPort x = new SerialPort();
        int[] none = {-1, 8, 9, 256, Integer.MIN_VALUE, Integer.MAX_VALUE};
        for (int dlab = 0; dlab <= 128; dlab += 128) {
            x.write(3, dlab);
            for (int r : none) {
                dueNoSuch("write(" + r + ", 1)", () -> x.write(r, 1));
                dueNoSuch("read(" + r + ")", () -> x.read(r));
            }
        }
    }

    private static void divisorBytes() {
        part = "DIVISOR";
        SerialPort x = new SerialPort();
        x.write(1, 5);
        x.write(3, 128);
        due("read(1)", x.read(1), 0);
        x.write(0, 0x1234);
        x.write(1, 0x56);
        due("read(0)", x.read(0), 0x34);
        due("read(1)", x.read(1), 0x56);
        x.write(0, 0x78);
        due("read(0)", x.read(0), 0x78);
        due("read(1)", x.read(1), 0x56);
        due("no character came to SENDING: count(1)", x.count(1), 0);
        x.write(3, 0);
        due("read(0)", x.read(0), 0);
        due("read(1)", x.read(1), 5);
        SerialPort y = port(3);
        y.frame(65, -1);
        y.clock(160);
        y.write(3, 131);
        due("read(0) with DLAB", y.read(0), 1);
        due("the character stays: count(0)", y.count(0), 1);
    }

    private static void sendingRow() {
        part = "SENDING";
        SerialPort x = port(3);
        x.write(0, 1);
        x.write(0, 0xAA);
        due("ROWS off: count(1)", x.count(1), 1);
        x.clock(24);
        due("the last one's place: first bit", x.count(4), 0);
        x.clock(16);
        due("the last one's place: second bit", x.count(4), 1);

        SerialPort y = port(3);
        y.write(2, 1);
        for (int i = 1; i <= 17; i++) {
            y.write(0, i == 17 ? 0 : 255);
            due("ROWS on: count(1)", y.count(1), Math.min(i, 16));
        }
        y.clock(160 * 16);
        due("count(1)", y.count(1), 0);
        due("the 17th is lost: count(7)", y.count(7), 0);
        due("RUNS are those of sixteen 255: count(6)", y.count(6), 32);
        due("run(0, 1)", y.run(0, 1), 144);
    }

    private static void receivedRow() {
        part = "RECEIVED";
        SerialPort x = port(3);
        x.write(2, 1);
        bring(x, 18);
        due("count(0)", x.count(0), 16);
        for (int i = 1; i <= 16; i++) {
            due("read(0)", x.read(0), i);
        }
        due("read(0) of an empty row", x.read(0), 0);
        due("OVERRUN: read(5)", x.read(5), 98);

        SerialPort y = port(3);
        bring(y, 2);
        due("ROWS off: count(0)", y.count(0), 1);
        due("it takes the one's place: read(0)", y.read(0), 2);
        due("read(0)", y.read(0), 0);
    }

    private static void rowControl() {
        part = "register 2";
        SerialPort x = port(3);
        bring(x, 1);
        x.write(0, 1);
        x.write(2, 0xFE);
        due("bit 0 off as before: count(0)", x.count(0), 1);
        due("bit 0 off as before: count(1)", x.count(1), 1);
        due("read(2)", x.read(2), 1);
        x.write(2, 0xC1);
        due("ROWS become on: count(0)", x.count(0), 0);
        due("ROWS become on: count(1)", x.count(1), 0);
        due("read(2)", x.read(2), 193);

        bring(x, 3);
        x.write(0, 1);
        x.write(0, 2);
        x.write(2, 1);
        due("on as before: count(0)", x.count(0), 3);
        due("on as before: count(1)", x.count(1), 2);
        x.write(2, 3);
        due("bit 1: count(0)", x.count(0), 0);
        due("bit 1: count(1)", x.count(1), 2);
        bring(x, 1);
        x.write(0, 3);
        due("count(1)", x.count(1), 2);
        x.write(2, 5);
        due("bit 2: count(0)", x.count(0), 1);
        due("bit 2: count(1)", x.count(1), 0);
        x.clock(400);
        x.write(0, 3);
        x.write(2, 0);
        due("ROWS become off: count(0)", x.count(0), 0);
        due("ROWS become off: count(1)", x.count(1), 0);
        due("read(2)", x.read(2), 1);
        levels();
    }

    private static void levels() {
        int[] level = {1, 4, 8, 14};
        for (int code = 0; code < 4; code++) {
            SerialPort x = port(3);
            x.write(1, 1);
            x.write(2, 1 | code << 6);
            bring(x, level[code] - 1);
            due("below the LEVEL: read(2)", x.read(2), 193);
            bring(x, 1);
            due("at the LEVEL: read(2)", x.read(2), 196);
            x.read(0);
            due("below it again: read(2)", x.read(2), 193);
        }
        SerialPort y = port(3);
        y.write(1, 1);
        y.write(2, 0x41);
        y.write(2, 0xC0);
        bring(y, 1);
        due("ROWS off, not empty: read(2)", y.read(2), 4);
        y.write(2, 0x41);
        bring(y, 3);
        due("LEVEL 4: read(2)", y.read(2), 193);
        bring(y, 1);
        due("LEVEL 4: read(2)", y.read(2), 196);
    }

    private static void lineState() {
        part = "register 5";
        SerialPort x = port(11);
        x.write(2, 1);
        x.frame(1, -1);
        x.frame(2, 9);
        x.frame(3, 10);
        x.wave(true, 16);
        x.clock(176 * 3);
        due("the first is good, others are not: read(5)", x.read(5), 225);
        x.read(0);
        due("PARITY: read(5)", x.read(5), 229);
        due("off behind that: read(5)", x.read(5), 225);
        x.read(0);
        due("FRAME: read(5)", x.read(5), 233);
        due("off behind that: read(5)", x.read(5), 97);
        x.read(0);
        due("read(5)", x.read(5), 96);
        x.write(0, 1);
        due("SENDING is not empty: read(5)", x.read(5), 0);
        x.clock(1);
        due("something is being sent: read(5)", x.read(5), 32);
        x.clock(175);
        due("nothing is being sent: read(5)", x.read(5), 96);

        SerialPort y = port(11);
        y.frame(2, 9);
        y.clock(176);
        due("ROWS off, bit 7 is off: read(5)", y.read(5), 101);

        SerialPort z = port(3);
        bring(z, 2);
        z.write(2, 1);
        due("OVERRUN stays till 5 is read: read(5)", z.read(5), 98);
        due("read(5)", z.read(5), 96);
    }

    private static void reasonsByRank() {
        part = "REASONS";
        SerialPort x = port(3);
        x.write(1, 15);
        bring(x, 2);
        x.inputs(1);
        due("LINE: read(2)", x.read(2), 6);
        x.read(5);
        due("RECEIVED: read(2)", x.read(2), 4);
        x.read(0);
        due("EMPTY: read(2)", x.read(2), 2);
        due("MODEM: read(2)", x.read(2), 0);
        due("count(3)", x.count(3), 1);
        x.read(6);
        due("none: read(2)", x.read(2), 1);
        due("count(3)", x.count(3), 0);

        SerialPort y = port(11);
        y.frame(1, 9);
        y.clock(176);
        y.inputs(2);
        y.write(0, 0);
        y.clock(1);
        due("nothing is wanted: read(2)", y.read(2), 1);
        due("count(3)", y.count(3), 0);
        y.write(1, 8);
        due("MODEM: read(2)", y.read(2), 0);
        y.write(1, 10);
        due("EMPTY: read(2)", y.read(2), 2);
        y.write(1, 1);
        due("RECEIVED: read(2)", y.read(2), 4);
        y.write(1, 4);
        due("LINE of the first one's PARITY: read(2)", y.read(2), 6);
        y.read(0);
        due("that went: read(2)", y.read(2), 1);
    }

    private static void reasonEmpty() {
        part = "EMPTY";
        SerialPort x = port(3);
        x.write(1, 2);
        due("count(3)", x.count(3), 1);
        due("count(3) changes nothing", x.count(3), 1);
        x.write(1, 2);
        due("read(2)", x.read(2), 2);
        x.write(1, 3);
        due("bit 1 was 1 before: read(2)", x.read(2), 1);
        x.write(1, 1);
        x.write(1, 3);
        due("it became 1: read(2)", x.read(2), 2);
        x.write(0, 1);
        x.write(1, 0);
        x.write(1, 2);
        due("SENDING is not empty: read(2)", x.read(2), 1);
        x.clock(1);
        due("the sender took it: count(3)", x.count(3), 1);
        x.write(0, 2);
        due("0 was written: read(2)", x.read(2), 1);
        x.write(2, 1);
        due("a row that is made empty brings none: read(2)", x.read(2), 193);
        x.clock(200);
        x.write(0, 1);
        x.write(0, 2);
        x.clock(1);
        due("one is left: read(2)", x.read(2), 193);
        x.clock(160);
        x.write(3, 131);
        x.write(0, 1);
        due("the DIVISOR's writing leaves it up: read(2)", x.read(2), 194);
        due("read(2)", x.read(2), 193);

        SerialPort y = port(3);
        y.write(1, 3);
        bring(y, 1);
        due("RECEIVED is told: read(2)", y.read(2), 4);
        y.read(0);
        due("EMPTY was not told before: read(2)", y.read(2), 2);
    }

    private static void reasonLate() {
        part = "LATE";
        SerialPort x = port(3);
        x.write(1, 1);
        x.write(2, 0xC1);
        x.frame(1, -1);
        x.clock(152);
        due("count(0)", x.count(0), 1);
        x.clock(639);
        due("639 BEATS behind the coming: read(2)", x.read(2), 193);
        x.clock(1);
        due("640 BEATS behind the coming: read(2)", x.read(2), 204);
        due("told again: read(2)", x.read(2), 204);
        x.write(1, 14);
        due("wanted with RECEIVED: read(2)", x.read(2), 194);
        x.write(1, 1);
        x.frame(2, -1);
        x.clock(160);
        due("a character leaves it up: read(2)", x.read(2), 204);
        x.read(0);
        due("0 was read: read(2)", x.read(2), 193);
        x.clock(300);
        x.write(3, 131);
        x.read(0);
        x.write(3, 3);
        x.clock(339);
        due("639 BEATS behind the reading: read(2)", x.read(2), 193);
        x.clock(1);
        due("640 BEATS behind the reading: read(2)", x.read(2), 204);
        x.write(2, 0xC3);
        due("RECEIVED became empty: read(2)", x.read(2), 193);
        x.clock(2000);
        due("it is empty: read(2)", x.read(2), 193);
        bring(x, 1);
        due("a new one: read(2)", x.read(2), 193);
        x.write(2, 0x01);
        due("RECEIVED has the higher rank: read(2)", x.read(2), 196);
        lateByFrames();
    }

    private static void lateByFrames() {
        int[] controls = {0, 4, 1, 6, 3, 7, 11, 31, 12};
        int[] beats = {112, 120, 128, 160, 160, 176, 176, 192, 136};
        for (int i = 0; i < controls.length; i++) {
            SerialPort x = port(3);
            x.write(1, 1);
            x.write(2, 0xC1);
            bring(x, 2);
            x.read(0);
            x.write(3, controls[i]);
            x.clock(4 * beats[i] - 1);
            due("3 is " + controls[i] + ": read(2)", x.read(2), 193);
            x.clock(1);
            due("3 is " + controls[i] + ": read(2)", x.read(2), 204);
        }
        SerialPort y = port(3);
        y.write(1, 1);
        y.write(2, 0xC1);
        bring(y, 2);
        y.read(0);
        y.clock(500);
        y.write(3, 0);
        due("no BEAT has gone since 3 was written: read(2)", y.read(2), 193);
        y.clock(1);
        due("more than four of the shorter FRAMES: read(2)", y.read(2), 204);
        y.write(3, 7);
        y.clock(1);
        due("it stays up: read(2)", y.read(2), 204);
    }

    private static void clockDivides() {
        part = "promise 4";
        SerialPort x = port(3);
        due("clock(0)", x.clock(0), 0);
        due("clock(60000)", x.clock(60000), 60000);
        due("clock(60001)", x.clock(60001), -1);
        due("clock(-1)", x.clock(-1), -1);
        due("clock(MIN)", x.clock(Integer.MIN_VALUE), -1);
        due("clock(MAX)", x.clock(Integer.MAX_VALUE), -1);
        due("count(2)", x.count(2), 60000);
        SerialPort y = new SerialPort();
        setLine(y, 5, 3);
        due("clock(4)", y.clock(4), 0);
        due("clock(1)", y.clock(1), 1);
        due("clock(13)", y.clock(13), 2);
        due("clock(2)", y.clock(2), 1);
        y.clock(4);
        setLine(y, 5, 3);
        due("counted from the writing on: clock(4)", y.clock(4), 0);
        due("clock(1)", y.clock(1), 1);
        y.clock(4);
        y.write(3, 128);
        y.write(1, 0);
        y.write(3, 3);
        due("of the higher byte too: clock(4)", y.clock(4), 0);
        due("clock(1)", y.clock(1), 1);
        setLine(y, 0x0101, 3);
        due("clock(256)", y.clock(256), 0);
        due("clock(1)", y.clock(1), 1);
        setLine(y, 0xFFFF, 3);
        due("clock(60000)", y.clock(60000), 0);
        due("clock(5534)", y.clock(5534), 0);
        due("clock(1)", y.clock(1), 1);
        setLine(y, 0, 3);
        due("DIVISOR 0: clock(60000)", y.clock(60000), 0);
    }

    /** Sends a character and compares every BEAT of its FRAME with the levels written out (one a bit). */
    private static void dueSent(int control, int character, String bits, int stopBeats) {
        SerialPort x = port(control);
        x.write(0, character);
        for (int b = 0; b < bits.length() * 16; b++) {
            x.clock(1);
            due("3 is " + control + ", BEAT " + b, x.count(4), bits.charAt(b / 16) - '0');
        }
        for (int b = 1; b <= stopBeats; b++) {
            x.clock(1);
            due("3 is " + control + ", STOP BEAT " + b, x.count(4), 1);
            due("3 is " + control + ", STOP BEAT " + b + " sends", x.count(7), b < stopBeats ? 1 : 0);
        }
    }

    private static void senderFrames() {
        part = "SENDER";
        dueSent(0, 0xF5, "010101", 16);
        dueSent(4, 0x0A, "001010", 24);
        dueSent(1, 0x3F, "0111111", 16);
        dueSent(5, 0x21, "0100001", 32);
        dueSent(2, 0x80, "00000000", 16);
        dueSent(6, 0x7F, "01111111", 32);
        dueSent(3, 0xA6, "001100101", 16);
        dueSent(7, 0xA6, "001100101", 32);
        dueSent(3 | 8 | 16, 0x01, "0100000001", 16);
        dueSent(3 | 8 | 16, 0x03, "0110000000", 16);
        dueSent(3 | 8, 0x01, "0100000000", 16);
        dueSent(3 | 8, 0x03, "0110000001", 16);
        dueSent(3 | 8 | 32, 0x03, "0110000001", 16);
        dueSent(3 | 8 | 32, 0x01, "0100000001", 16);
        dueSent(3 | 8 | 16 | 32, 0x01, "0100000000", 16);
        dueSent(3 | 16 | 32, 0x01, "010000000", 16);
        dueSent(0 | 8 | 16, 0xE1, "0100001", 16);
        dueSent(0 | 8, 0x20, "0000001", 16);

        part = "SENDER, by 3 as it was";
        SerialPort x = port(3);
        x.write(0, 0x80);
        x.clock(20);
        x.write(3, 4);
        x.clock(124);
        due("count(4)", x.count(4), 1);
        x.clock(15);
        due("count(7)", x.count(7), 1);
        x.clock(1);
        due("count(7)", x.count(7), 0);
        due("run(1, 1)", x.run(1, 1), 128);

        part = "SENDER, back to back";
        SerialPort y = port(3);
        y.write(2, 1);
        y.write(0, 0);
        y.write(0, 0);
        y.clock(161);
        due("run(0, 0)", y.run(0, 0), 0);
        due("run(0, 1)", y.run(0, 1), 1);
        due("run(1, 1)", y.run(1, 1), 16);
        due("run(2, 1)", y.run(2, 1), 144);
    }

    private static void senderBreak() {
        part = "BREAK";
        SerialPort x = port(3);
        x.clock(5);
        x.write(3, 67);
        due("the latest BEAT was high: count(4)", x.count(4), 1);
        x.clock(7);
        due("count(4)", x.count(4), 0);
        due("run(0, 1)", x.run(0, 1), 7);
        x.write(0, 255);
        x.clock(40);
        due("while it sends: count(4)", x.count(4), 0);
        due("count(7)", x.count(7), 1);
        x.write(3, 3);
        x.clock(1);
        due("count(4)", x.count(4), 1);
        due("run(1, 1)", x.run(1, 1), 47);
    }

    private static void receiverSamples() {
        part = "RECEIVER";
        int[] controls = {0, 4, 1, 6, 3, 7, 8, 11, 27, 43, 59};
        for (int control : controls) {
            int bits = 5 + (control & 3);
            int stopSeen = 23 + 16 * (bits + ((control & 8) != 0 ? 1 : 0));
            for (int character : new int[] {0, 1, 0x55, 0xAA, 0xFF}) {
                SerialPort x = port(control);
                x.frame(character, -1);
                x.clock(stopSeen);
                due("3 is " + control + ", not yet: count(0)", x.count(0), 0);
                due("3 is " + control + ", in a FRAME: count(8)", x.count(8), 1);
                x.clock(1);
                due("3 is " + control + ", came: count(0)", x.count(0), 1);
                due("3 is " + control + ", idle: count(8)", x.count(8), 0);
                due("3 is " + control + ": read(5)", x.read(5), 97);
                due("3 is " + control + ": read(0)", x.read(0), character & (1 << bits) - 1);
            }
        }
        SerialPort y = port(3);
        y.wave(false, 23);
        y.wave(true, 1);
        y.wave(false, 31);
        y.wave(true, 1);
        y.wave(false, 95);
        y.wave(true, 1);
        y.clock(152);
        due("only BEATS 23, 39 .. are looked at: read(0)", y.read(0), 5);
        due("read(5)", y.read(5), 96);

        SerialPort z = port(3);
        z.frame(0xF0, -1);
        z.clock(10);
        z.write(3, 0);
        z.clock(141);
        due("by 3 as it was: count(0)", z.count(0), 0);
        z.clock(1);
        due("by 3 as it was: read(0)", z.read(0), 0xF0);

        SerialPort w = port(3);
        w.wave(false, 7);
        w.wave(true, 1);
        w.wave(false, 1);
        w.clock(7);
        due("count(8)", w.count(8), 1);
        w.clock(1);
        due("high at BEAT 7: count(8)", w.count(8), 0);
        w.clock(1);
        due("low behind it begins one: count(8)", w.count(8), 1);
        SerialPort v = port(3);
        v.wave(false, 8);
        v.wave(true, 200);
        v.clock(8);
        due("low at BEAT 7: count(8)", v.count(8), 1);
        v.clock(144);
        due("read(0)", v.read(0), 255);
    }

    private static void dueFaults(int control, int character, int flip, int faults) {
        SerialPort x = port(control);
        int pieces = x.frame(character, flip);
        x.wave(true, 20);
        x.clock(16 * (pieces - 1) + 8);
        due("3 is " + control + ", frame(" + character + ", " + flip + "): read(5)", x.read(5), 97 | faults);
    }

    private static void receiverFaults() {
        part = "RECEIVER, faults";
        dueFaults(27, 1, 9, 4);
        dueFaults(27, 1, 1, 4);
        dueFaults(27, 1, 10, 8);
        dueFaults(27, 0, 10, 24);
        dueFaults(11, 1, 10, 8);
        dueFaults(11, 0, 9, 4);
        dueFaults(3, 1, 9, 8);
        dueFaults(3, 0, 9, 24);
        dueFaults(3, 0, 1, 0);
        dueFaults(43, 7, 9, 4);
        dueFaults(59, 7, 9, 4);
        dueFaults(59, 0, 10, 24);
        dueFaults(12, 3, 6, 4);
        dueFaults(4, 3, 6, 8);
        SerialPort x = port(11);
        x.wave(false, 200);
        x.clock(168);
        due("BREAK with odd parity: read(5)", x.read(5), 97 | 28);
        SerialPort y = port(27);
        y.frame(1, 9);
        y.frame(1, -1);
        y.clock(352);
        due("the second's faults (none) take the place: read(5)", y.read(5), 99);
    }

    private static void receiverIdle() {
        part = "RECEIVER, idle";
        SerialPort x = port(3);
        x.frame(1, 9);
        x.wave(false, 300);
        x.wave(true, 1);
        x.wave(false, 200);
        x.clock(152);
        due("read(5)", x.read(5), 105);
        x.clock(308);
        due("low since the STOP: count(8)", x.count(8), 0);
        x.clock(1);
        due("high: count(8)", x.count(8), 0);
        x.clock(1);
        due("low behind a high: count(8)", x.count(8), 1);

        SerialPort y = port(3);
        y.frame(255, -1);
        y.clock(144);
        y.reset();
        setLine(y, 1, 3);
        y.wave(false, 16);
        y.wave(true, 128);
        y.wave(true, 8);
        y.wave(false, 8);
        y.clock(152);
        due("count(0)", y.count(0), 1);
        y.clock(1);
        due("the STOP's BEAT was high: count(8)", y.count(8), 1);
    }

    private static void waves() {
        part = "promise 5";
        SerialPort x = port(3);
        due("wave(true, 0)", x.wave(true, 0), -1);
        due("wave(false, -1)", x.wave(false, -1), -1);
        due("wave(true, 4001)", x.wave(true, 4001), -1);
        due("wave(true, MAX)", x.wave(true, Integer.MAX_VALUE), -1);
        due("wave(true, MIN)", x.wave(true, Integer.MIN_VALUE), -1);
        due("count(5)", x.count(5), 0);
        due("wave(true, 1)", x.wave(true, 1), 1);
        due("wave(true, 4000)", x.wave(true, 4000), 2);
        x.clock(1);
        due("count(5)", x.count(5), 1);
        x.clock(3999);
        due("count(5)", x.count(5), 1);
        x.clock(1);
        due("count(5)", x.count(5), 0);
        x.wave(false, 1);
        x.clock(8);
        due("the line stays as it was: count(8)", x.count(8), 1);
        x.clock(400);
        due("read(5)", x.read(5), 121);

        SerialPort y = port(3);
        for (int i = 1; i <= 500; i++) {
            due("wave", y.wave(i % 2 == 0, 2), i);
        }
        due("full: wave", y.wave(true, 2), -1);
        y.clock(1);
        due("full: wave", y.wave(true, 2), -1);
        y.clock(1);
        due("wave", y.wave(true, 2), 500);
        due("count(5)", y.count(5), 500);
    }

    private static void frames() {
        part = "promise 6";
        SerialPort x = port(0);
        due("5 bits", x.frame(1, -1), 7);
        x.write(3, 4);
        due("5 bits, 1 1/2", x.frame(1, -1), 7);
        x.write(3, 15);
        due("8 bits, parity, 2", x.frame(-1, 13), 11);
        due("count(5)", x.count(5), 25);
        x.clock(112 + 120);
        due("STOPS of 16 and 24: count(5)", x.count(5), 11);
        x.clock(160);
        due("count(5)", x.count(5), 1);
        x.clock(31);
        due("a STOP of 32: count(5)", x.count(5), 1);
        x.clock(1);
        due("count(5)", x.count(5), 0);
        due("read(0)", x.read(0), 255);

        SerialPort y = port(3);
        for (int flip : new int[] {-1, 10, 11, 12, 13, 99, Integer.MIN_VALUE, Integer.MAX_VALUE}) {
            y.frame(0x15A, flip);
            y.clock(160);
            due("flip " + flip + ": read(5)", y.read(5), 97);
            due("flip " + flip + ": read(0)", y.read(0), 0x5A);
        }
        for (int flip = 1; flip <= 8; flip++) {
            y.frame(0x5A, flip);
            y.clock(160);
            due("flip " + flip + ": read(0)", y.read(0), 0x5A ^ 1 << flip - 1);
        }
        y.frame(0, 0);
        y.clock(16);
        due("the start is high: count(8)", y.count(8), 0);

        SerialPort z = port(3);
        for (int i = 0; i < 491; i++) {
            z.wave(true, 1);
        }
        due("room for nine", z.frame(1, -1), -1);
        due("count(5)", z.count(5), 491);
        z.write(3, 2);
        due("room for nine", z.frame(1, -1), 9);
        due("count(5)", z.count(5), 500);
        due("room for none", z.frame(1, -1), -1);
    }

    private static void inputsAndModem() {
        part = "promise 7";
        SerialPort x = new SerialPort();
        for (int bits : new int[] {-1, 16, 17, Integer.MIN_VALUE, Integer.MAX_VALUE}) {
            due("inputs(" + bits + ")", x.inputs(bits), false);
        }
        due("read(6)", x.read(6), 0);
        int[] on = {0x11, 0x22, 0x40, 0x88};
        int[] off = {0x01, 0x02, 0x04, 0x08};
        for (int k = 0; k < 4; k++) {
            due("inputs", x.inputs(1 << k), true);
            due("on: read(6)", x.read(6), on[k]);
            due("inputs", x.inputs(1 << k), true);
            due("as it was: read(6)", x.read(6), on[k] & 0xF0);
            due("inputs", x.inputs(0), true);
            due("off: read(6)", x.read(6), off[k]);
            due("read(6)", x.read(6), 0);
        }
        x.inputs(15);
        x.inputs(0);
        due("there and back: read(6)", x.read(6), 15);
        x.write(1, 8);
        x.inputs(4);
        due("RI became on: count(3)", x.count(3), 0);
        x.inputs(0);
        due("RI became off: count(3)", x.count(3), 1);
        due("read(2)", x.read(2), 0);
        due("read(2)", x.read(2), 0);
    }

    private static void loop() {
        part = "LOOP";
        SerialPort x = port(3);
        x.inputs(6);
        x.read(6);
        x.write(4, 15);
        due("without LOOP: read(6)", x.read(6), 0x60);
        int[] outputs = {17, 18, 20, 24, 16};
        int[] told = {0x24, 0x13, 0x41, 0x8C, 0x08};
        for (int k = 0; k < 5; k++) {
            x.write(4, outputs[k]);
            due("4 is " + outputs[k] + ": read(6)", x.read(6), told[k]);
        }
        x.inputs(9);
        due("not seen: read(6)", x.read(6), 0);
        x.write(4, 0);
        due("seen: read(6)", x.read(6), 0x99);

        SerialPort y = port(67);
        y.write(4, 16);
        y.wave(false, 100);
        y.write(0, 0x5A);
        y.clock(16);
        due("the line is high: count(4)", y.count(4), 1);
        due("the WAVE is not listened to: count(8)", y.count(8), 1);
        y.clock(136);
        due("the WAVE goes: count(5)", y.count(5), 0);
        due("count(4)", y.count(4), 1);
        due("one RUN: count(6)", y.count(6), 1);
        due("without BREAK: read(5)", y.read(5), 33);
        due("read(0)", y.read(0), 0x5A);
        y.clock(8);
        y.clock(200);
        due("count(8)", y.count(8), 0);
        y.write(4, 0);
        y.clock(1);
        due("the line is low: count(8)", y.count(8), 1);
    }

    private static void resets() {
        part = "promise 8";
        SerialPort x = port(3);
        x.write(2, 0xC1);
        x.write(1, 15);
        x.write(7, 77);
        x.inputs(15);
        bring(x, 17);
        x.write(4, 31);
        for (int i = 0; i < 5; i++) {
            x.write(0, i);
        }
        x.clock(20);
        x.frame(1, -1);
        x.wave(false, 4000);
        x.write(4, 0);
        x.clock(30);
        x.write(3, 67);
        x.clock(3);
        x.reset();
        dueAtFirst(x);
        setLine(x, 1, 3);
        x.write(1, 1);
        x.write(2, 1);
        x.clock(1);
        due("the line that comes in is high: count(8)", x.count(8), 0);
        bring(x, 1);
        due("the LEVEL is 1: read(2)", x.read(2), 196);

        SerialPort y = port(3);
        y.wave(false, 300);
        y.clock(200);
        y.reset();
        setLine(y, 1, 3);
        y.wave(false, 8);
        y.clock(1);
        due("a low line begins a FRAME as at first: count(8)", y.count(8), 1);
    }

    private static void counts() {
        part = "promise 9";
        SerialPort x = port(3);
        for (int what : new int[] {-1, 9, 10, Integer.MIN_VALUE, Integer.MAX_VALUE}) {
            due("count(" + what + ")", x.count(what), -1);
        }
        x.write(2, 1);
        x.write(1, 2);
        x.frame(1, -1);
        x.frame(2, -1);
        x.write(0, 1);
        x.write(0, 2);
        x.write(0, 3);
        x.clock(170);
        int[] counts = {1, 1, 170, 0, 0, 10, 5, 1, 1};
        for (int again = 0; again < 2; again++) {
            for (int what = 0; what < 9; what++) {
                due("count(" + what + ")", x.count(what), counts[what]);
            }
        }
    }

    private static void runs() {
        part = "promise 10";
        SerialPort x = port(3);
        due("run(0, 0)", x.run(0, 0), -1);
        x.clock(3);
        due("run(0, 0)", x.run(0, 0), 1);
        due("run(0, 1)", x.run(0, 1), 3);
        due("run(1, 0)", x.run(1, 0), -1);
        due("run(-1, 0)", x.run(-1, 0), -1);
        due("run(0, 2)", x.run(0, 2), -1);
        due("run(0, -1)", x.run(0, -1), -1);
        due("run(MIN, 1)", x.run(Integer.MIN_VALUE, 1), -1);
        due("run(MAX, 1)", x.run(Integer.MAX_VALUE, 1), -1);
        for (int i = 1; i <= 45; i++) {
            x.write(3, i % 2 == 1 ? 67 : 3);
            x.clock(i);
        }
        due("count(6)", x.count(6), 46);
        for (int i = 0; i < 40; i++) {
            due("run(" + i + ", 0)", x.run(i, 0), i % 2);
            due("run(" + i + ", 1)", x.run(i, 1), 45 - i);
        }
        due("run(40, 0)", x.run(40, 0), -1);
        due("run(40, 1)", x.run(40, 1), -1);
        SerialPort y = port(3);
        y.clock(60000);
        y.clock(60000);
        due("a long one: run(0, 1)", y.run(0, 1), 120000);
    }

    /** The calls that README.md shows, with the answers that it writes beside them. */
    private static void readmeExample() {
        part = "README";
        SerialPort x = new SerialPort();
        x.write(3, 128);
        x.write(0, 1);
        x.write(3, 3);
        x.write(0, 65);
        due("clock(160)", x.clock(160), 160);
        due("run(0, 1)", x.run(0, 1), 16);
        due("frame(66, -1)", x.frame(66, -1), 10);
        due("clock(160)", x.clock(160), 160);
        due("read(5)", x.read(5), 97);
        due("read(0)", x.read(0), 66);
        due("read(0)", x.read(0), 0);
    }
}
