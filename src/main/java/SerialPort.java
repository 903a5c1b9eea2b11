import java.util.NoSuchElementException;

/** A serial port by the PC16550D's data sheet, cut to what the project's document tells. */
public final class SerialPort {
    public static final int NONE = -1;

    private static final int LAST_REGISTER = 7;
    private static final int MOST_CLOCKS = 60000;
    private static final int MOST_PIECE_BEATS = 4000;
    private static final int MOST_PIECES = 500;
    private static final int MOST_RUNS = 40;
    private static final int ROW_ROOM = 16;
    private static final int BIT_BEATS = 16;
    private static final int LATE_FRAMES = 4;

    private static final int WANT_RECEIVED = 1;
    private static final int WANT_EMPTY = 2;
    private static final int WANT_LINE = 4;
    private static final int WANT_MODEM = 8;

    private static final int REASON_LINE = 6;
    private static final int REASON_RECEIVED = 4;
    private static final int REASON_LATE = 12;
    private static final int REASON_EMPTY = 2;
    private static final int REASON_MODEM = 0;
    private static final int REASON_NONE = 1;

    private static final int OVERRUN = 2;
    private static final int PARITY = 4;
    private static final int FRAME = 8;
    private static final int BREAK = 16;
    private static final int FAULTS = PARITY | FRAME | BREAK;
    /** A received character is kept in one number: the character below, its faults above. */
    private static final int FAULT_SHIFT = 8;
    private static final int BYTE = 255;

    private static final int LINE_BREAK = 64;
    private static final int LINE_DLAB = 128;

    private final Divider divider = new Divider();
    private final Ring received = new Ring(ROW_ROOM);
    private final Ring sending = new Ring(ROW_ROOM);
    private final Sender sender = new Sender();
    private final Receiver receiver = new Receiver();
    private final Modem modem = new Modem();
    private final LineIn lineIn = new LineIn();
    private final LineOut lineOut = new LineOut();

    private int wanted;
    private int lineControl;
    private int kept;
    private int level;
    private boolean rowsOn;
    private boolean overrun;
    private boolean emptyUp;
    private boolean lateUp;
    private int beats;
    /** The number of the BEAT behind which a character came to RECEIVED, or 0 was read, last. */
    private int quietSince;

    public SerialPort() {
        powerOn();
    }

    public void write(int r, int v) throws NoSuchElementException {
        if (r < 0 || r > LAST_REGISTER) {
            throw new NoSuchElementException("there is no such register");
        }
        int value = v & BYTE;
        if (r <= 1 && (lineControl & LINE_DLAB) != 0) {
            divider.putByte(r, value);
        } else {
            putRegister(r, value);
        }
    }

    public int read(int r) throws NoSuchElementException {
        if (r < 0 || r > LAST_REGISTER) {
            throw new NoSuchElementException("there is no such register");
        }
        if (r <= 1 && (lineControl & LINE_DLAB) != 0) {
            return divider.tellByte(r);
        }
        return tellRegister(r);
    }

    public int clock(int n) {
        if (n < 0 || n > MOST_CLOCKS) {
            return NONE;
        }
        int due = divider.pass(n);
        for (int i = 0; i < due; i++) {
            beat();
        }
        return due;
    }

    public int wave(boolean high, int beats) {
        if (beats < 1 || beats > MOST_PIECE_BEATS || lineIn.room() < 1) {
            return NONE;
        }
        lineIn.append(high, beats);
        return lineIn.pieces();
    }

    public int frame(int character, int flip) {
        int pieces = Shape.pieces(lineControl);
        if (lineIn.room() < pieces) {
            return NONE;
        }
        for (int k = 0; k < pieces; k++) {
            boolean high = Shape.pieceIsHigh(lineControl, character, k);
            lineIn.append(high != (k == flip), Shape.pieceBeats(lineControl, k));
        }
        return pieces;
    }

    public boolean inputs(int bits) {
        if (bits < 0 || bits > 15) {
            return false;
        }
        modem.putPins(bits);
        return true;
    }

    public void reset() {
        powerOn();
    }

    public int count(int what) {
        switch (what) {
            case 0: return received.size();
            case 1: return sending.size();
            case 2: return beats;
            case 3: return reason() == REASON_NONE ? 0 : 1;
            case 4: return lineOut.isHigh() ? 1 : 0;
            case 5: return lineIn.pieces();
            case 6: return lineOut.runsInAll();
            case 7: return sender.isBusy() ? 1 : 0;
            case 8: return receiver.isBusy() ? 1 : 0;
            default: return NONE;
        }
    }

    public int run(int i, int what) {
        if (i < 0 || i >= lineOut.runsKept()) {
            return NONE;
        }
        switch (what) {
            case 0: return lineOut.runIsHigh(i) ? 1 : 0;
            case 1: return lineOut.runBeats(i);
            default: return NONE;
        }
    }

    private void powerOn() {
        divider.clear();
        received.clear();
        sending.clear();
        sender.clear();
        receiver.clear();
        modem.clear();
        lineIn.clear();
        lineOut.clear();
        wanted = 0;
        lineControl = 0;
        kept = 0;
        level = 1;
        rowsOn = false;
        overrun = false;
        emptyUp = false;
        lateUp = false;
        beats = 0;
        quietSince = 0;
    }

    private void putRegister(int r, int value) {
        switch (r) {
            case 0: putCharacter(value); break;
            case 1: putWanted(value & 15); break;
            case 2: putRowControl(value); break;
            case 3: lineControl = value; break;
            case 4: modem.putOutputs(value & 31); break;
            case 7: kept = value; break;
            default: break;
        }
    }

    private int tellRegister(int r) {
        switch (r) {
            case 0: return takeCharacter();
            case 1: return wanted;
            case 2: return tellReason();
            case 3: return lineControl;
            case 4: return modem.outputs();
            case 5: return tellLineState();
            case 6: return modem.tellState();
            default: return kept;
        }
    }

    private int rowRoom() {
        return rowsOn ? ROW_ROOM : 1;
    }

    private void putCharacter(int value) {
        if (sending.size() < rowRoom()) {
            sending.add(value);
        } else if (!rowsOn) {
            sending.setFirst(value);
        }
        emptyUp = false;
    }

    private int takeCharacter() {
        int character = received.first() & BYTE;
        received.dropFirst();
        lateUp = false;
        quietSince = beats;
        return character;
    }

    private void putWanted(int value) {
        boolean newlyWanted = (value & ~wanted & WANT_EMPTY) != 0;
        if (newlyWanted && sending.isEmpty()) {
            emptyUp = true;
        }
        wanted = value;
    }

    private void putRowControl(int value) {
        boolean on = (value & 1) != 0;
        boolean changes = on != rowsOn;
        rowsOn = on;
        if (changes || on && (value & 2) != 0) {
            received.clear();
            lateUp = false;
        }
        if (changes || on && (value & 4) != 0) {
            sending.clear();
        }
        if (on) {
            level = levelOf(value >> 6);
        }
    }

    private static int levelOf(int code) {
        switch (code) {
            case 0: return 1;
            case 1: return 4;
            case 2: return 8;
            default: return 14;
        }
    }

    private int firstFaults() {
        return received.first() >> FAULT_SHIFT & FAULTS;
    }

    private boolean someFault() {
        for (int i = 0; i < received.size(); i++) {
            if (received.at(i) >> FAULT_SHIFT != 0) {
                return true;
            }
        }
        return false;
    }

    private int tellLineState() {
        int told = firstFaults();
        told |= received.isEmpty() ? 0 : 1;
        told |= overrun ? OVERRUN : 0;
        told |= sending.isEmpty() ? 32 : 0;
        told |= sending.isEmpty() && !sender.isBusy() ? 64 : 0;
        told |= rowsOn && someFault() ? 128 : 0;
        overrun = false;
        received.setFirst(received.first() & BYTE);
        return told;
    }

    private int reason() {
        if (wants(WANT_LINE) && (overrun || firstFaults() != 0)) {
            return REASON_LINE;
        }
        if (wants(WANT_RECEIVED) && received.size() >= (rowsOn ? level : 1)) {
            return REASON_RECEIVED;
        }
        if (wants(WANT_RECEIVED) && rowsOn && lateUp) {
            return REASON_LATE;
        }
        if (wants(WANT_EMPTY) && emptyUp) {
            return REASON_EMPTY;
        }
        return wants(WANT_MODEM) && modem.hasChanged() ? REASON_MODEM : REASON_NONE;
    }

    private boolean wants(int bit) {
        return (wanted & bit) != 0;
    }

    private int tellReason() {
        int told = reason();
        if (told == REASON_EMPTY) {
            emptyUp = false;
        }
        return rowsOn ? told | 192 : told;
    }

    private void beat() {
        beats++;
        boolean sent = stepSender();
        boolean loop = modem.loops();
        lineOut.append(loop || sent && (lineControl & LINE_BREAK) == 0);
        // The WAVE goes on in LOOP too: the line is only not listened to.
        boolean came = lineIn.next();
        int got = receiver.step(loop ? sent : came, lineControl);
        if (got != NONE) {
            addReceived(got);
        }
        stepLate();
    }

    private boolean stepSender() {
        if (!sender.isBusy() && !sending.isEmpty()) {
            sender.begin(lineControl, sending.first());
            sending.dropFirst();
            if (sending.isEmpty()) {
                emptyUp = true;
            }
        }
        return sender.next();
    }

    private void addReceived(int got) {
        if (received.size() < rowRoom()) {
            received.add(got);
        } else {
            overrun = true;
            if (!rowsOn) {
                received.setFirst(got);
            }
        }
        quietSince = beats;
    }

    private void stepLate() {
        if (!rowsOn || received.isEmpty()) {
            return;
        }
        if (beats - quietSince >= LATE_FRAMES * Shape.beats(lineControl)) {
            lateUp = true;
        }
    }

    /** What register 3 says of a FRAME: its pieces are the start, the bits, the parity bit, the STOP. */
    private static final class Shape {
        private static final int TWO_STOPS = 4;
        private static final int HAS_PARITY = 8;
        private static final int EVEN = 16;
        private static final int STUCK = 32;

        static int dataBits(int control) {
            return 5 + (control & 3);
        }

        static boolean hasParity(int control) {
            return (control & HAS_PARITY) != 0;
        }

        static int pieces(int control) {
            return dataBits(control) + (hasParity(control) ? 3 : 2);
        }

        static int stopBeats(int control) {
            if ((control & TWO_STOPS) == 0) {
                return BIT_BEATS;
            }
            return dataBits(control) == 5 ? BIT_BEATS + BIT_BEATS / 2 : 2 * BIT_BEATS;
        }

        static int pieceBeats(int control, int k) {
            return k == pieces(control) - 1 ? stopBeats(control) : BIT_BEATS;
        }

        static int beats(int control) {
            return (pieces(control) - 1) * BIT_BEATS + stopBeats(control);
        }

        static boolean parityIsHigh(int control, int character) {
            boolean even = (control & EVEN) != 0;
            if ((control & STUCK) != 0) {
                return !even;
            }
            int bits = character & (1 << dataBits(control)) - 1;
            boolean oddOnes = (Integer.bitCount(bits) & 1) != 0;
            return even == oddOnes;
        }

        static boolean pieceIsHigh(int control, int character, int k) {
            int bits = dataBits(control);
            if (k <= 0) {
                return false;
            }
            if (k <= bits) {
                return (character >> k - 1 & 1) != 0;
            }
            if (k == bits + 1 && hasParity(control)) {
                return parityIsHigh(control, character);
            }
            return true;
        }
    }

    /** Numbers in a row with a fixed room; the array is made once and used round and round. */
    private static final class Ring {
        private final int[] cells;
        private int head;
        private int size;

        Ring(int room) {
            cells = new int[Math.max(room, 1)];
            head = 0;
            size = 0;
        }

        int size() {
            return size;
        }

        boolean isEmpty() {
            return size == 0;
        }

        int room() {
            return cells.length - size;
        }

        void clear() {
            head = 0;
            size = 0;
        }

        /** The i-th from the first on; 0 where there is none. */
        int at(int i) {
            int k = cellOf(i);
            return i >= 0 && i < size && k >= 0 && k < cells.length ? cells[k] : 0;
        }

        int first() {
            return at(0);
        }

        void setFirst(int value) {
            setAt(0, value);
        }

        void setAt(int i, int value) {
            int k = cellOf(i);
            if (i >= 0 && i < size && k >= 0 && k < cells.length) {
                cells[k] = value;
            }
        }

        void add(int value) {
            if (size < cells.length) {
                size++;
                setAt(size - 1, value);
            }
        }

        void dropFirst() {
            if (size > 0) {
                head = cellOf(1);
                size--;
            }
        }

        private int cellOf(int i) {
            int k = head + i;
            return k >= cells.length ? k - cells.length : k;
        }
    }

    /** CLOCKS to BEATS. */
    private static final class Divider {
        private int divisor;
        private int passed;

        void clear() {
            divisor = 0;
            passed = 0;
        }

        void putByte(int which, int value) {
            divisor = which == 0 ? divisor & 0xFF00 | value : divisor & 0x00FF | value << 8;
            passed = 0;
        }

        int tellByte(int which) {
            return which == 0 ? divisor & BYTE : divisor >> 8 & BYTE;
        }

        /** How many BEATS are in the next so many CLOCKS. */
        int pass(int clocks) {
            if (divisor <= 0) {
                return 0;
            }
            int all = passed + clocks;
            passed = all % divisor;
            return all / divisor;
        }
    }

    /** Sends one FRAME, by register 3 as it was when the FRAME began. */
    private static final class Sender {
        private int control;
        private int character;
        private int beat;
        private boolean busy;

        void clear() {
            control = 0;
            character = 0;
            beat = 0;
            busy = false;
        }

        boolean isBusy() {
            return busy;
        }

        void begin(int byControl, int what) {
            control = byControl;
            character = what;
            beat = 0;
            busy = true;
        }

        /** The level of the next BEAT, high if nothing is being sent. */
        boolean next() {
            if (!busy) {
                return true;
            }
            boolean high = Shape.pieceIsHigh(control, character, beat / BIT_BEATS);
            beat++;
            busy = beat < Shape.beats(control);
            return high;
        }
    }

    /** Takes one FRAME after the other from the line, by register 3 as it was when the FRAME began. */
    private static final class Receiver {
        private static final int MIDDLE = BIT_BEATS / 2 - 1;

        private int control;
        private int character;
        private int beat;
        private boolean busy;
        /** A low line begins a FRAME only when it was high since the latest one. */
        private boolean wasHigh;
        private boolean parityHigh;
        private boolean someHigh;

        void clear() {
            begin(0);
            busy = false;
            wasHigh = true;
        }

        boolean isBusy() {
            return busy;
        }

        /** What came with this BEAT: a character with its faults above it, or NONE. */
        int step(boolean high, int controlNow) {
            if (!busy) {
                listen(high, controlNow);
                return NONE;
            }
            beat++;
            if (beat % BIT_BEATS != MIDDLE) {
                return NONE;
            }
            return beat == MIDDLE ? seeStart(high) : see(high);
        }

        private void listen(boolean high, int controlNow) {
            if (high) {
                wasHigh = true;
            } else if (wasHigh) {
                begin(controlNow);
            }
        }

        private void begin(int byControl) {
            control = byControl;
            character = 0;
            beat = 0;
            busy = true;
            wasHigh = false;
            parityHigh = false;
            someHigh = false;
        }

        private int seeStart(boolean high) {
            if (high) {
                becomeIdle(true);
            }
            return NONE;
        }

        private void becomeIdle(boolean high) {
            busy = false;
            wasHigh = high;
        }

        private int see(boolean high) {
            int piece = beat / BIT_BEATS;
            int bits = Shape.dataBits(control);
            someHigh = someHigh || high;
            if (piece <= bits) {
                character |= high ? 1 << piece - 1 : 0;
                return NONE;
            }
            if (piece == bits + 1 && Shape.hasParity(control)) {
                parityHigh = high;
                return NONE;
            }
            becomeIdle(high);
            return character | faults(high) << FAULT_SHIFT;
        }

        private int faults(boolean stopHigh) {
            int faults = stopHigh ? 0 : FRAME;
            if (!someHigh) {
                faults |= BREAK;
            }
            if (Shape.hasParity(control) && parityHigh != Shape.parityIsHigh(control, character)) {
                faults |= PARITY;
            }
            return faults;
        }
    }

    /** Registers 4 and 6, and the four inputs. */
    private static final class Modem {
        private static final int LOOP = 16;
        private static final int RI = 4;

        private int outputs;
        private int pins;
        private int state;
        private int changes;

        void clear() {
            outputs = 0;
            pins = 0;
            state = 0;
            changes = 0;
        }

        int outputs() {
            return outputs;
        }

        boolean loops() {
            return (outputs & LOOP) != 0;
        }

        boolean hasChanged() {
            return changes != 0;
        }

        void putOutputs(int value) {
            outputs = value;
            follow();
        }

        void putPins(int value) {
            pins = value;
            follow();
        }

        int tellState() {
            int told = state << 4 | changes;
            changes = 0;
            return told;
        }

        private void follow() {
            int now = loops() ? looped() : pins;
            int different = now ^ state;
            // RI counts only when it becomes off.
            changes |= different & ~RI | different & state & RI;
            state = now;
        }

        /** CTS, DSR, RI, DCD from RTS, DTR, OUT1, OUT2: the lower two change places. */
        private int looped() {
            return outputs >> 1 & 1 | outputs << 1 & 2 | outputs & 12;
        }
    }

    /** The line that comes in, and the WAVE; a piece is its BEATS twice, and 1 if it is high. */
    private static final class LineIn {
        private final Ring wave = new Ring(MOST_PIECES);
        private boolean high;

        void clear() {
            wave.clear();
            high = true;
        }

        int pieces() {
            return wave.size();
        }

        int room() {
            return wave.room();
        }

        void append(boolean pieceHigh, int pieceBeats) {
            wave.add(pieceBeats * 2 + (pieceHigh ? 1 : 0));
        }

        boolean next() {
            if (!wave.isEmpty()) {
                int piece = wave.first();
                high = (piece & 1) != 0;
                if (piece >= 4) {
                    wave.setFirst(piece - 2);
                } else {
                    wave.dropFirst();
                }
            }
            return high;
        }
    }

    /** The line that goes out, and its latest RUNS; a RUN is its BEATS twice, and 1 if it is high. */
    private static final class LineOut {
        private final Ring runs = new Ring(MOST_RUNS);
        private int inAll;

        void clear() {
            runs.clear();
            inAll = 0;
        }

        boolean isHigh() {
            return runs.isEmpty() || runIsHigh(0);
        }

        int runsInAll() {
            return inAll;
        }

        int runsKept() {
            return runs.size();
        }

        boolean runIsHigh(int fromLatest) {
            return (fromEnd(fromLatest) & 1) != 0;
        }

        int runBeats(int fromLatest) {
            return fromEnd(fromLatest) >> 1;
        }

        void append(boolean high) {
            if (!runs.isEmpty() && runIsHigh(0) == high) {
                runs.setAt(runs.size() - 1, fromEnd(0) + 2);
                return;
            }
            if (runs.room() == 0) {
                runs.dropFirst();
            }
            runs.add(high ? 3 : 2);
            inAll++;
        }

        private int fromEnd(int i) {
            return runs.at(runs.size() - 1 - i);
        }
    }
}
