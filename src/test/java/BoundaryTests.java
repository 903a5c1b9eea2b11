import java.lang.annotation.Retention;
import java.lang.annotation.RetentionPolicy;
import java.lang.reflect.Constructor;
import java.lang.reflect.Field;
import java.lang.reflect.Method;
import java.lang.reflect.Modifier;
import java.util.NoSuchElementException;
import java.util.TreeSet;

/**
 * Each sentence of the document that names a boundary case has a test of its own here: the sentence
 * stands above its test, and the answers are worked out from it by hand.
 *
 * <p>A FRAME of 8 bits without parity is 160 BEATS; the receiver sees its STOP at BEAT 151, so that
 * the character is there behind 152 BEATS.
 */
public final class BoundaryTests {
    /** The document's sentence that the method below it would find broken. */
    @Retention(RetentionPolicy.RUNTIME)
    private @interface Sentence {
        String value();
    }

    private static final int MIN = Integer.MIN_VALUE;
    private static final int MAX = Integer.MAX_VALUE;
    private static final int EIGHT_BITS = 3;
    private static final int DLAB = 128;

    private static String sentence = "";
    private static int wrong = 0;

    public static void main(String[] args) throws ReflectiveOperationException {
        int tests = 0;
        for (Method m : BoundaryTests.class.getDeclaredMethods()) {
            Sentence about = m.getAnnotation(Sentence.class);
            if (about != null) {
                sentence = m.getName() + " (" + about.value() + ")";
                m.invoke(null);
                tests++;
            }
        }
        System.out.println(tests + " sentences, " + wrong + " answers are not as due");
        if (wrong != 0 || tests == 0) {
            System.exit(1);
        }
    }

    private static void due(String call, long got, long want) {
        if (got != want) {
            wrong++;
            System.out.println(sentence + ": " + call + " answered " + got + ", due is " + want);
        }
    }

    private static void due(String call, boolean got, boolean want) {
        due(call, got ? 1 : 0, want ? 1 : 0);
    }

    private static void dueNoSuch(String call, Runnable action) {
        boolean thrown = false;
        try {
            action.run();
        } catch (NoSuchElementException e) {
            thrown = true;
        }
        due(call + " throws NoSuchElementException", thrown, true);
    }

    private static void setDivisor(SerialPort x, int divisor, int control) {
        x.write(3, DLAB);
        x.write(0, divisor & 255);
        x.write(1, divisor >> 8);
        x.write(3, control);
    }

    /** A port whose every CLOCK is a BEAT, with register 3 as given. */
    private static SerialPort port(int control) {
        SerialPort x = new SerialPort();
        setDivisor(x, 1, control);
        return x;
    }

    /** A port of 8 bits a character with ROWS on, and the LEVEL by its code 0 .. 3. */
    private static SerialPort rows(int levelCode) {
        SerialPort x = port(EIGHT_BITS);
        x.write(2, 1 | levelCode << 6);
        return x;
    }

    /** A whole FRAME (8 bits, no parity) comes in. */
    private static void bring(SerialPort x, int character) {
        x.frame(character, -1);
        x.clock(160);
    }

    private static void bringUpTo(SerialPort x, int last) {
        for (int i = 1; i <= last; i++) {
            bring(x, i);
        }
    }

    // ------------------------------------------------------------ the face, what it is

    @Sentence("The public face")
    private static void theFaceIsTheDocuments() {
        TreeSet<String> face = new TreeSet<>();
        for (Constructor<?> c : SerialPort.class.getDeclaredConstructors()) {
            face.add(c.toGenericString());
        }
        for (Method m : SerialPort.class.getDeclaredMethods()) {
            if (!Modifier.isPrivate(m.getModifiers())) {
                face.add(m.toGenericString());
            }
        }
        for (Field f : SerialPort.class.getDeclaredFields()) {
            if (!Modifier.isPrivate(f.getModifiers())) {
                face.add(f.toGenericString());
            }
        }
        TreeSet<String> document = new TreeSet<>();
        document.add("public SerialPort()");
        document.add("public static final int SerialPort.NONE");
        document.add("public void SerialPort.write(int,int) throws java.util.NoSuchElementException");
        document.add("public int SerialPort.read(int) throws java.util.NoSuchElementException");
        document.add("public int SerialPort.clock(int)");
        document.add("public int SerialPort.wave(boolean,int)");
        document.add("public int SerialPort.frame(int,int)");
        document.add("public boolean SerialPort.inputs(int)");
        document.add("public void SerialPort.reset()");
        document.add("public int SerialPort.count(int)");
        document.add("public int SerialPort.run(int,int)");
        due("the face " + face, face.equals(document), true);
        due("public and final", SerialPort.class.getModifiers(), Modifier.PUBLIC | Modifier.FINAL);
        due("NONE", SerialPort.NONE, -1);
    }

    @Sentence("An object is used for at most 512 calls after it has been made")
    private static void theLastOf512CallsIsAnsweredToo() {
        SerialPort x = port(EIGHT_BITS);
        int beats = 0;
        for (int call = 5; call <= 510; call++) {
            beats += x.clock(60000);
        }
        due("506 times clock(60000)", beats, 30360000);
        due("call 511: count(2)", x.count(2), 30360000);
        due("call 512: run(0, 1)", x.run(0, 1), 30360000);

        SerialPort y = new SerialPort();
        for (int call = 1; call <= 510; call += 2) {
            y.write(7, call);
            due("call " + (call + 1) + ": read(7)", y.read(7), call & 255);
        }
        y.write(7, 511);
        due("call 512: read(7)", y.read(7), 255);
    }

    // ------------------------------------------------------------ terms 1: the registers

    @Sentence("REGISTERS 0 .. 7")
    private static void registersEndAtZeroAndSeven() {
        for (int dlab = 0; dlab <= DLAB; dlab += DLAB) {
            SerialPort x = new SerialPort();
            x.write(3, dlab);
            for (int r : new int[] {-1, 8, -8, 16, 256, 259, MIN, MIN + 3, MAX}) {
                dueNoSuch("read(" + r + ")", () -> x.read(r));
                dueNoSuch("write(" + r + ", 255)", () -> x.write(r, 255));
            }
            for (int r = 0; r <= 7; r++) {
                x.read(r);
                x.write(r, r == 3 ? dlab : 0);
            }
        }
    }

    @Sentence("Promise 2: NoSuchElementException: none such (a refused write changes nothing)")
    private static void aRefusedWriteChangesNothing() {
        SerialPort x = port(EIGHT_BITS);
        for (int r : new int[] {-1, 8, 9, 10, 11, 12, 15, 256, 257, 258, 259, MIN, MAX}) {
            dueNoSuch("write(" + r + ", 255)", () -> x.write(r, 255));
        }
        int[] registers = {0, 0, 1, 3, 0, 96, 0, 0};
        for (int r = 0; r <= 7; r++) {
            due("read(" + r + ")", x.read(r), registers[r]);
        }
        due("count(1)", x.count(1), 0);
        due("the DIVISOR is 1: clock(3)", x.clock(3), 3);
    }

    @Sentence("Promise 3: NoSuchElementException: none such (a refused read changes nothing)")
    private static void aRefusedReadChangesNothing() {
        SerialPort x = port(EIGHT_BITS);
        x.write(1, 15);
        x.inputs(1);
        bringUpTo(x, 2);
        for (int r : new int[] {-1, 8, 13, 14, 256, 261, 262, MIN, MAX}) {
            dueNoSuch("read(" + r + ")", () -> x.read(r));
        }
        due("count(0)", x.count(0), 1);
        due("OVERRUN: read(5)", x.read(5), 99);
        due("CTS: read(6)", x.read(6), 17);
        due("read(0)", x.read(0), 2);
        due("EMPTY: read(2)", x.read(2), 2);
    }

    @Sentence("(bytes) / Promise 2: Register r becomes v's lowest eight bits")
    private static void onlyTheLowestEightBitsAreWritten() {
        SerialPort x = new SerialPort();
        int[] values = {0, 1, 255, 256, 257, 300, 511, 512, -1, -256, MIN, MAX};
        int[] bytes = {0, 1, 255, 0, 1, 44, 255, 0, 255, 0, 0, 255};
        for (int i = 0; i < values.length; i++) {
            x.write(7, values[i]);
            due("7 written " + values[i] + ": read(7)", x.read(7), bytes[i]);
            x.write(3, values[i]);
            due("3 written " + values[i] + ": read(3)", x.read(3), bytes[i]);
            x.write(3, DLAB);
            x.write(0, values[i]);
            due("the DIVISOR's lower byte written " + values[i] + ": read(0)", x.read(0), bytes[i]);
            x.write(1, values[i]);
            due("the DIVISOR's higher byte written " + values[i] + ": read(1)", x.read(1), bytes[i]);
            due("the lower byte stays: read(0)", x.read(0), bytes[i]);
        }
        SerialPort y = rows(0);
        y.write(4, 16);
        y.write(0, 256 + 65);
        y.clock(160);
        due("0 written 321: read(0) in LOOP", y.read(0), 65);
        y.write(2, 256);
        due("2 written 256, ROWS are off: read(2)", y.read(2), 1);
    }

    @Sentence("DLAB is bit 7 of 3")
    private static void dlabIsBitSevenAlone() {
        SerialPort x = new SerialPort();
        x.write(3, 127);
        x.write(0, 9);
        x.write(1, 9);
        due("3 is 127, a character came: count(1)", x.count(1), 1);
        due("3 is 127: read(0)", x.read(0), 0);
        x.write(3, 128);
        due("3 is 128: read(0)", x.read(0), 0);
        due("3 is 128: read(1)", x.read(1), 0);
        x.write(0, 7);
        due("no character came: count(1)", x.count(1), 1);
        due("3 is 128: read(0)", x.read(0), 7);
        x.write(3, 0);
        due("read(1) as it was written before", x.read(1), 9);
    }

    @Sentence("With DLAB 0 and 1 are the lower and higher byte of the DIVISOR (written and read)")
    private static void withDlabOnlyZeroAndOneAreOthers() {
        SerialPort x = new SerialPort();
        x.write(3, 255);
        x.write(0, 255);
        x.write(1, 255);
        due("the largest: read(0)", x.read(0), 255);
        due("the largest: read(1)", x.read(1), 255);
        x.write(0, 0);
        due("the lower byte alone: read(0)", x.read(0), 0);
        due("the lower byte alone: read(1)", x.read(1), 255);
        x.write(1, 0);
        due("read(1)", x.read(1), 0);
        x.write(2, 1);
        due("read(2)", x.read(2), 193);
        due("read(3)", x.read(3), 255);
        x.write(4, 31);
        due("read(4)", x.read(4), 31);
        due("read(5)", x.read(5), 96);
        due("read(6)", x.read(6), 0xFB);
        x.write(7, 5);
        due("read(7)", x.read(7), 5);
    }

    @Sentence("With DLAB .. Without: 0 read (with DLAB no character of RECEIVED goes)")
    private static void withDlabReceivedStays() {
        SerialPort x = port(EIGHT_BITS);
        bring(x, 65);
        x.write(3, DLAB);
        due("the DIVISOR: read(0)", x.read(0), 1);
        due("count(0)", x.count(0), 1);
        x.write(3, EIGHT_BITS);
        due("read(0)", x.read(0), 65);
    }

    @Sentence("0 read: the first character of the RECEIVED row goes, and is told (0 if the row is empty)")
    private static void anEmptyReceivedRowTellsZero() {
        SerialPort x = port(EIGHT_BITS);
        due("at first: read(0)", x.read(0), 0);
        due("count(0)", x.count(0), 0);
        bring(x, 200);
        due("read(0)", x.read(0), 200);
        due("empty again: read(0)", x.read(0), 0);
        due("count(0)", x.count(0), 0);
        x.write(2, 1);
        due("ROWS on: read(0)", x.read(0), 0);
        bring(x, 201);
        bring(x, 202);
        due("read(0)", x.read(0), 201);
        due("count(0)", x.count(0), 1);
        due("read(0)", x.read(0), 202);
        due("read(0)", x.read(0), 0);
        due("count(0)", x.count(0), 0);
        bring(x, 203);
        due("count(0)", x.count(0), 1);
        due("read(0)", x.read(0), 203);
    }

    @Sentence("0 read: the first character of the RECEIVED row goes (the row goes round and round)")
    private static void receivedWrapsAround() {
        SerialPort x = rows(0);
        bringUpTo(x, 11);
        for (int i = 12; i <= 60; i++) {
            bring(x, i);
            due("read(0)", x.read(0), i - 11);
        }
        due("count(0)", x.count(0), 11);
        for (int i = 61; i <= 65; i++) {
            bring(x, i);
        }
        for (int i = 50; i <= 65; i++) {
            due("a full row that has wrapped: read(0)", x.read(0), i);
        }
        due("read(0)", x.read(0), 0);
    }

    @Sentence("0 written: if it is full: with ROWS off it takes the last one's place")
    private static void withRowsOffTheLastOnesPlaceIsTaken() {
        SerialPort x = port(EIGHT_BITS);
        x.write(0, 0);
        due("count(1)", x.count(1), 1);
        x.write(0, 255);
        due("count(1)", x.count(1), 1);
        x.clock(160);
        due("the second is sent: run(0, 1)", x.run(0, 1), 144);
        due("run(1, 1)", x.run(1, 1), 16);
        x.clock(1);
        due("no other one is: count(7)", x.count(7), 0);

        SerialPort y = port(EIGHT_BITS);
        y.write(4, 16);
        y.write(0, 1);
        y.clock(1);
        y.write(0, 2);
        y.write(0, 3);
        due("while the first is being sent: count(1)", y.count(1), 1);
        y.clock(159);
        due("read(0)", y.read(0), 1);
        y.clock(160);
        due("read(0)", y.read(0), 3);
    }

    @Sentence("0 written: if it is full: with ROWS on it is lost")
    private static void withRowsOnTheSeventeenthIsLost() {
        SerialPort x = rows(0);
        x.write(4, 16);
        for (int i = 1; i <= 15; i++) {
            x.write(0, i);
        }
        due("count(1)", x.count(1), 15);
        x.write(0, 16);
        due("the 16th has room: count(1)", x.count(1), 16);
        x.write(0, 17);
        due("the 17th has none: count(1)", x.count(1), 16);
        x.clock(1);
        due("the sender took one: count(1)", x.count(1), 15);
        x.write(0, 18);
        x.write(0, 19);
        due("room for one more: count(1)", x.count(1), 16);
        x.clock(16 * 160);
        for (int i = 1; i <= 16; i++) {
            due("read(0) in LOOP", x.read(0), i);
        }
        x.clock(160);
        due("read(0) in LOOP", x.read(0), 18);
        x.clock(320);
        due("neither 17 nor 19: count(0)", x.count(0), 0);
    }

    @Sentence("0 written: a character comes to the SENDING row (the row goes round and round)")
    private static void sendingWrapsAround() {
        SerialPort x = rows(0);
        x.write(4, 16);
        for (int i = 1; i <= 9; i++) {
            x.write(0, i);
        }
        for (int i = 10; i <= 50; i++) {
            x.write(0, i);
            x.clock(160);
            due("read(0) in LOOP", x.read(0), i - 9);
        }
        due("count(1)", x.count(1), 9);
    }

    @Sentence("1: which REASONS are wanted (higher bits are 0)")
    private static void higherBitsOfOneAreZero() {
        SerialPort x = new SerialPort();
        int[] written = {0, 15, 16, 240, 255, 0x1F};
        int[] told = {0, 15, 0, 0, 15, 15};
        for (int i = 0; i < written.length; i++) {
            x.write(1, written[i]);
            due("1 written " + written[i] + ": read(1)", x.read(1), told[i]);
        }
    }

    @Sentence("2 read: the REASON, with bits 6, 7 if ROWS are on")
    private static void rowsAreToldByTwo() {
        SerialPort x = new SerialPort();
        due("ROWS off: read(2)", x.read(2), 1);
        x.write(2, 1);
        due("ROWS on, LEVEL 1: read(2)", x.read(2), 193);
        x.write(2, 0xC1);
        due("ROWS on, LEVEL 14: read(2)", x.read(2), 193);
        x.write(2, 0xFE);
        due("ROWS off: read(2)", x.read(2), 1);
    }

    @Sentence("2 written: bit 0: where that is another one than before, both rows are empty then")
    private static void otherRowsAreEmptyRows() {
        SerialPort x = port(EIGHT_BITS);
        bring(x, 1);
        x.write(0, 2);
        x.write(2, 0);
        due("off as before: count(0)", x.count(0), 1);
        due("off as before: count(1)", x.count(1), 1);
        x.write(2, 1);
        due("off, then on: count(0)", x.count(0), 0);
        due("off, then on: count(1)", x.count(1), 0);
        bringUpTo(x, 3);
        x.write(0, 1);
        x.write(0, 2);
        x.write(2, 0xC1);
        due("on as before: count(0)", x.count(0), 3);
        due("on as before: count(1)", x.count(1), 2);
        x.write(2, 0);
        due("on, then off: count(0)", x.count(0), 0);
        due("on, then off: count(1)", x.count(1), 0);
        due("on, then off: read(0)", x.read(0), 0);
        x.clock(200);
        due("nothing is sent: count(7)", x.count(7), 0);
    }

    @Sentence("2 written: if it is on, bit 1: the RECEIVED row, bit 2: the SENDING row is empty then")
    private static void eachRowIsMadeEmptyByItsBit() {
        int[] written = {1, 3, 5, 7, 0xF9};
        int[] received = {2, 0, 2, 0, 2};
        int[] sending = {3, 3, 0, 0, 3};
        for (int i = 0; i < written.length; i++) {
            SerialPort x = rows(0);
            bringUpTo(x, 2);
            x.write(0, 1);
            x.write(0, 2);
            x.write(0, 3);
            x.write(2, written[i]);
            due("2 written " + written[i] + ": count(0)", x.count(0), received[i]);
            due("2 written " + written[i] + ": count(1)", x.count(1), sending[i]);
        }
        SerialPort y = rows(0);
        y.write(0, 0);
        y.write(0, 0);
        y.clock(1);
        y.write(2, 5);
        due("what is being sent goes on: count(7)", y.count(7), 1);
        y.clock(200);
        due("run(1, 1)", y.run(1, 1), 144);
        due("the row was made empty: count(6)", y.count(6), 2);
    }

    @Sentence("2 written: bits 6, 7: the LEVEL 1, 4, 8, 14")
    private static void eachLevelHasItsEdge() {
        int[] level = {1, 4, 8, 14};
        for (int code = 0; code <= 3; code++) {
            SerialPort x = rows(code);
            x.write(1, 1);
            bringUpTo(x, level[code] - 1);
            due("one below LEVEL " + level[code] + ": read(2)", x.read(2), 193);
            bring(x, 99);
            due("LEVEL " + level[code] + ": read(2)", x.read(2), 196);
            bring(x, 100);
            due("one above LEVEL " + level[code] + ": read(2)", x.read(2), 196);
            x.read(0);
            x.read(0);
            due("one below it again: read(2)", x.read(2), 193);
        }
    }

    @Sentence("(With bit 0 off the other bits do nothing; the LEVEL stays.)")
    private static void withBitZeroOffTheOthersDoNothing() {
        SerialPort x = port(EIGHT_BITS);
        x.write(1, 1);
        bring(x, 1);
        x.write(0, 2);
        x.write(2, 0xFE);
        due("count(0)", x.count(0), 1);
        due("count(1)", x.count(1), 1);
        due("ROWS off, not empty: read(2)", x.read(2), 4);
    }

    @Sentence("3: bits 0, 1: 5, 6, 7, 8 bits a character")
    private static void charactersHaveFiveToEightBits() {
        int[] told = {0x1F, 0x3F, 0x7F, 0xFF};
        for (int bits = 5; bits <= 8; bits++) {
            SerialPort x = port(bits - 5);
            x.write(4, 16);
            x.write(0, 255);
            x.clock(16 * (bits + 2) - 1);
            due(bits + " bits, one BEAT before the end: count(7)", x.count(7), 1);
            x.clock(1);
            due(bits + " bits, at the end: count(7)", x.count(7), 0);
            due(bits + " bits: read(0) in LOOP", x.read(0), told[bits - 5]);
        }
    }

    @Sentence("3: bit 2: STOP of 1 bit, or (1) of 2, of 5 bits 1 1/2 / high for the STOP (16, 24, 32 BEATS)")
    private static void stopsAreOneOneAndAHalfOrTwo() {
        int[] one = {16, 16, 16, 16};
        int[] more = {24, 32, 32, 32};
        for (int code = 0; code <= 3; code++) {
            dueStop(code, 16 * (6 + code), one[code]);
            dueStop(code | 4, 16 * (6 + code), more[code]);
            dueStop(code | 8, 16 * (7 + code), one[code]);
            dueStop(code | 12, 16 * (7 + code), more[code]);
        }
    }

    private static void dueStop(int control, int before, int stop) {
        SerialPort x = rows(0);
        x.write(3, control);
        x.write(0, 0);
        x.write(0, 0);
        x.clock(before + stop - 1);
        due("3 is " + control + ", one BEAT is left: count(7)", x.count(7), 1);
        x.clock(1);
        due("3 is " + control + ", the STOP is over: count(7)", x.count(7), 0);
        x.clock(1);
        due("3 is " + control + ", the next one begins: count(4)", x.count(4), 0);
        due("3 is " + control + ", count(7)", x.count(7), 1);
    }

    @Sentence("PARITY: even: as many ones with it as are even; odd: odd")
    private static void parityOfNoneSomeAndAllOnes() {
        int[] eight = {0, 1, 3, 7, 128, 254, 255};
        int[] even = {0, 1, 0, 1, 1, 1, 0};
        for (int i = 0; i < eight.length; i++) {
            dueParityBit(27, eight[i], even[i]);
            dueParityBit(11, eight[i], 1 - even[i]);
        }
        // Of 5 bits: those above are not counted.
        int[] five = {0, 31, 0xE0, 0xFF, 0xE1};
        int[] evenOfFive = {0, 1, 0, 1, 1};
        for (int i = 0; i < five.length; i++) {
            dueParityBit(24, five[i], evenOfFive[i]);
            dueParityBit(8, five[i], 1 - evenOfFive[i]);
        }
    }

    /** The sender's parity bit, and that the receiver in LOOP finds it right. */
    private static void dueParityBit(int control, int character, int want) {
        int parityBegins = 16 * (6 + (control & 3));
        String about = "3 is " + control + ", character " + character;
        SerialPort x = port(control);
        x.write(0, character);
        x.clock(parityBegins + 1);
        due(about + ", first BEAT of the parity bit: count(4)", x.count(4), want);
        x.clock(15);
        due(about + ", its last BEAT: count(4)", x.count(4), want);
        x.clock(1);
        due(about + ", the STOP: count(4)", x.count(4), 1);
        SerialPort y = port(control);
        y.frame(character, -1);
        y.clock(parityBegins + 24);
        due(about + ", it is right: read(5)", y.read(5), 97);
    }

    @Sentence("3: bit 5: stuck: the parity bit is the contrary of bit 4")
    private static void stuckParity() {
        for (int character : new int[] {0, 1, 3, 255}) {
            dueParityBit(43, character, 1);
            dueParityBit(59, character, 0);
            dueParityBit(40, character, 1);
            dueParityBit(56, character, 0);
        }
        for (int control : new int[] {35, 51, 19}) {
            SerialPort x = port(control);
            due("3 is " + control + ", no PARITY: frame(1, -1)", x.frame(1, -1), 10);
            x.write(0, 0);
            x.clock(144);
            due("3 is " + control + ", no PARITY: count(4)", x.count(4), 0);
            x.clock(15);
            due("3 is " + control + ", no PARITY: count(7)", x.count(7), 1);
            x.clock(1);
            due("3 is " + control + ", no PARITY: count(7)", x.count(7), 0);
        }
    }

    @Sentence("3: bit 6: BREAK: the line that goes out is low")
    private static void breakMakesTheLineLow() {
        SerialPort x = port(EIGHT_BITS);
        x.clock(1);
        x.write(3, EIGHT_BITS | 64);
        due("no BEAT yet: count(4)", x.count(4), 1);
        x.clock(1);
        due("count(4)", x.count(4), 0);
        x.write(0, 255);
        x.clock(160);
        due("the whole FRAME is low: run(0, 1)", x.run(0, 1), 161);
        due("it was sent: count(7)", x.count(7), 0);
        x.write(3, EIGHT_BITS);
        due("no BEAT yet: count(4)", x.count(4), 0);
        x.clock(1);
        due("count(4)", x.count(4), 1);
        due("run(1, 1)", x.run(1, 1), 161);
        due("what comes in is as it was: count(8)", x.count(8), 0);
    }

    @Sentence("4: bits 0 .. 4 (higher ones are 0)")
    private static void higherBitsOfFourAreZero() {
        SerialPort x = new SerialPort();
        int[] written = {0, 31, 32, 224, 255, 15, 16};
        int[] told = {0, 31, 0, 0, 31, 15, 16};
        for (int i = 0; i < written.length; i++) {
            x.write(4, written[i]);
            due("4 written " + written[i] + ": read(4)", x.read(4), told[i]);
        }
    }

    @Sentence("5 read: bit 0: RECEIVED is not empty; 1: OVERRUN")
    private static void receivedAndOverrunInFive() {
        SerialPort x = rows(0);
        due("empty: read(5)", x.read(5), 96);
        bring(x, 1);
        due("one: read(5)", x.read(5), 97);
        for (int i = 2; i <= 16; i++) {
            bring(x, i);
        }
        due("full: read(5)", x.read(5), 97);
        bring(x, 17);
        due("run over: read(5)", x.read(5), 99);
        due("read(5)", x.read(5), 97);
        for (int i = 1; i <= 15; i++) {
            x.read(0);
        }
        due("one is left: read(5)", x.read(5), 97);
        x.read(0);
        due("empty: read(5)", x.read(5), 96);
    }

    @Sentence("5 read: 2, 3, 4: PARITY, FRAME, BREAK of the first character of RECEIVED")
    private static void faultsOfTheFirstCharacterAlone() {
        SerialPort x = rows(0);
        x.write(3, 27);
        x.frame(1, -1);
        x.frame(1, 9);
        x.frame(1, 10);
        x.wave(true, 16);
        x.frame(0, 10);
        x.clock(4 * 176 + 16);
        due("the first has none: read(5)", x.read(5), 0xE1);
        x.read(0);
        due("PARITY: read(5)", x.read(5), 0xE5);
        x.read(0);
        due("FRAME: read(5)", x.read(5), 0xE9);
        x.read(0);
        due("BREAK, and FRAME too: read(5)", x.read(5), 0xF9);
        x.read(0);
        due("empty: read(5)", x.read(5), 96);
    }

    @Sentence("5 read: 5: SENDING is empty; 6: that, and nothing is being sent")
    private static void sendingAndSentInFive() {
        SerialPort x = rows(0);
        due("at first: read(5)", x.read(5), 96);
        x.write(0, 1);
        x.write(0, 2);
        due("two: read(5)", x.read(5), 0);
        x.clock(1);
        due("one, and one is being sent: read(5)", x.read(5), 0);
        x.clock(159);
        due("one, nothing is being sent: read(5)", x.read(5), 0);
        x.clock(1);
        due("empty, one is being sent: read(5)", x.read(5), 32);
        x.clock(158);
        due("its last BEAT but one: read(5)", x.read(5), 32);
        x.clock(1);
        due("it is sent: read(5)", x.read(5), 96);
    }

    @Sentence("5 read: 7: ROWS are on, and some character in RECEIVED has one of 2, 3, 4")
    private static void someFaultInTheRow() {
        SerialPort x = rows(0);
        x.write(3, 27);
        for (int i = 1; i <= 15; i++) {
            x.frame(255, -1);
            x.clock(176);
        }
        due("fifteen without: read(5)", x.read(5), 0x61);
        x.frame(1, 9);
        x.clock(176);
        due("the sixteenth has one: read(5)", x.read(5), 0xE1);
        x.frame(1, 9);
        x.clock(176);
        for (int i = 1; i <= 15; i++) {
            x.read(0);
        }
        due("OVERRUN, and the last one's PARITY: read(5)", x.read(5), 0xE7);
        due("none is left: read(5)", x.read(5), 0x61);
        SerialPort y = port(27);
        y.frame(1, 9);
        y.clock(176);
        due("ROWS off: read(5)", y.read(5), 0x65);
    }

    @Sentence("Behind that OVERRUN and these three of the first character are off")
    private static void behindAReadingOfFiveTheFirstHasNone() {
        SerialPort x = rows(0);
        x.write(3, 27);
        x.write(1, 4);
        x.frame(1, 9);
        x.frame(2, 9);
        x.clock(352);
        due("LINE: read(2)", x.read(2), 198);
        due("read(5)", x.read(5), 0xE5);
        due("the first one's is off, the second's is not: read(5)", x.read(5), 0xE1);
        due("no LINE: read(2)", x.read(2), 193);
        due("the character is as it was: read(0)", x.read(0), 1);
        due("LINE of the second: read(2)", x.read(2), 198);
        due("read(5)", x.read(5), 0xE5);
        due("read(5)", x.read(5), 0x61);
        due("read(0)", x.read(0), 2);
        SerialPort y = port(EIGHT_BITS);
        bringUpTo(y, 2);
        due("OVERRUN: read(5)", y.read(5), 99);
        due("off behind that: read(5)", y.read(5), 97);
        due("an empty row: read(0)", y.read(0), 2);
        due("read(5)", y.read(5), 96);
        due("an empty row has none to put off: read(0)", y.read(0), 0);
    }

    @Sentence("5 written: nothing")
    private static void fiveIsNotWritten() {
        SerialPort x = port(EIGHT_BITS);
        bringUpTo(x, 2);
        x.write(5, 0);
        due("OVERRUN stays: read(5)", x.read(5), 99);
        x.write(5, 255);
        due("read(5)", x.read(5), 97);
    }

    @Sentence("6 read: 0, 1, 3: CTS, DSR, DCD became another one, 2: RI became off, since 6 was read")
    private static void whatChangedSinceSixWasRead() {
        SerialPort x = new SerialPort();
        int[] on = {0x11, 0x22, 0x40, 0x88};
        int[] off = {0x01, 0x02, 0x04, 0x08};
        for (int k = 0; k <= 3; k++) {
            x.inputs(1 << k);
            due("input " + k + " became on: read(6)", x.read(6), on[k]);
            due("since 6 was read: read(6)", x.read(6), on[k] & 0xF0);
            x.inputs(1 << k);
            due("it is as it was: read(6)", x.read(6), on[k] & 0xF0);
            x.inputs(0);
            due("input " + k + " became off: read(6)", x.read(6), off[k]);
            due("since 6 was read: read(6)", x.read(6), 0);
        }
        x.inputs(15);
        x.inputs(0);
        due("all, there and back: read(6)", x.read(6), 15);
        x.inputs(4);
        x.read(6);
        x.inputs(0);
        x.inputs(4);
        due("RI became off, and is on again: read(6)", x.read(6), 0x44);
    }

    @Sentence("6 written: nothing")
    private static void sixIsNotWritten() {
        SerialPort x = new SerialPort();
        x.inputs(5);
        x.write(6, 0);
        due("read(6)", x.read(6), 0x51);
        x.write(6, 255);
        due("read(6)", x.read(6), 0x50);
    }

    @Sentence("7: a byte that is kept")
    private static void sevenIsKept() {
        SerialPort x = port(EIGHT_BITS);
        x.write(7, 255);
        x.clock(1000);
        bring(x, 3);
        x.write(2, 1);
        x.write(4, 31);
        due("read(7)", x.read(7), 255);
        due("a reading leaves it: read(7)", x.read(7), 255);
        x.write(7, 0);
        due("read(7)", x.read(7), 0);
    }

    @Sentence("At first: all 0, DIVISOR 0, LEVEL 1, ROWS off, rows empty, the line that comes in high, inputs off")
    private static void atFirst() {
        dueAtFirst(new SerialPort());
        SerialPort x = port(EIGHT_BITS);
        x.clock(200);
        due("the line that comes in is high: count(8)", x.count(8), 0);
        due("nothing came: count(0)", x.count(0), 0);
        due("nothing went: run(0, 1)", x.run(0, 1), 200);
    }

    /** Uses 22 calls; the object's DIVISOR is 0 and its 3 is 128 behind them. */
    private static void dueAtFirst(SerialPort x) {
        int[] counts = {0, 0, 0, 0, 1, 0, 0, 0, 0};
        for (int what = 0; what <= 8; what++) {
            due("count(" + what + ")", x.count(what), counts[what]);
        }
        due("run(0, 0)", x.run(0, 0), -1);
        int[] registers = {0, 0, 1, 0, 0, 96, 0, 0};
        for (int r = 0; r <= 7; r++) {
            due("read(" + r + ")", x.read(r), registers[r]);
        }
        due("clock(60000)", x.clock(60000), 0);
        x.write(3, DLAB);
        due("the DIVISOR: read(0)", x.read(0), 0);
        due("the DIVISOR: read(1)", x.read(1), 0);
    }

    @Sentence("Rows have room for one with ROWS off, for 16 with them on")
    private static void roomForOneOrSixteen() {
        SerialPort x = port(EIGHT_BITS);
        for (int i = 1; i <= 3; i++) {
            x.write(0, i);
            due("ROWS off: count(1)", x.count(1), 1);
        }
        x.write(2, 1);
        for (int i = 1; i <= 20; i++) {
            x.write(0, i);
            due("ROWS on: count(1)", x.count(1), Math.min(i, 16));
        }
        x.write(2, 5);
        for (int i = 1; i <= 20; i++) {
            bring(x, i);
            due("ROWS on: count(0)", x.count(0), Math.min(i, 16));
        }
        x.write(2, 0);
        for (int i = 1; i <= 3; i++) {
            bring(x, i);
            due("ROWS off: count(0)", x.count(0), 1);
        }
    }

    // ------------------------------------------------------------ terms 1: LOOP, REASONS

    @Sentence("LOOP: the receiver takes what goes out (without BREAK), the line that goes out is high")
    private static void loopTakesWhatGoesOut() {
        SerialPort x = port(EIGHT_BITS | 64);
        x.write(4, 16);
        x.write(0, 0x0F);
        x.clock(152);
        due("without BREAK: read(5)", x.read(5), 33);
        due("read(0)", x.read(0), 0x0F);
        x.clock(8);
        due("the line is high in spite of FRAME and BREAK: run(0, 0)", x.run(0, 0), 1);
        due("run(0, 1)", x.run(0, 1), 160);
        due("count(6)", x.count(6), 1);
        x.write(4, 15);
        x.clock(1);
        due("without LOOP it is low by BREAK: count(4)", x.count(4), 0);

        SerialPort y = port(EIGHT_BITS);
        y.write(0, 0);
        y.write(4, 15);
        y.clock(160);
        due("4 is 15, no LOOP, the FRAME goes out: run(1, 1)", y.run(1, 1), 144);
        due("and does not come in: count(0)", y.count(0), 0);
        y.wave(false, 300);
        y.write(4, 16);
        y.clock(200);
        due("in LOOP the line that comes in is not heard: count(0)", y.count(0), 0);
        due("count(8)", y.count(8), 0);
    }

    @Sentence("LOOP: CTS, DSR, RI, DCD are RTS, DTR, OUT1, OUT2")
    private static void loopJoinsOutputsToInputs() {
        SerialPort x = new SerialPort();
        int[] outputs = {16, 18, 17, 20, 24, 31, 16};
        int[] states = {0x00, 0x10, 0x20, 0x40, 0x80, 0xF0, 0x00};
        for (int i = 0; i < outputs.length; i++) {
            x.write(4, outputs[i]);
            due("4 is " + outputs[i] + ": read(6)", x.read(6) & 0xF0, states[i]);
        }
        x.write(4, 15);
        due("without LOOP they are the inputs: read(6)", x.read(6) & 0xF0, 0);
    }

    @Sentence("(What becomes another one by that counts, too.)")
    private static void whatLoopChangesCounts() {
        SerialPort x = new SerialPort();
        x.inputs(15);
        x.read(6);
        x.write(4, 16);
        due("all became off: read(6)", x.read(6), 0x0F);
        x.write(4, 0);
        due("all became on, RI's does not count: read(6)", x.read(6), 0xFB);
        x.write(4, 31);
        due("none became another one: read(6)", x.read(6), 0xF0);
        x.write(4, 27);
        due("OUT1 became off: read(6)", x.read(6), 0xB4);
        x.write(1, 8);
        due("no MODEM: read(2)", x.read(2), 1);
        x.write(4, 0);
        due("RI became on by LOOP's end, no MODEM: read(2)", x.read(2), 1);
        x.write(4, 27);
        due("RI became off by LOOP, MODEM: read(2)", x.read(2), 0);
    }

    @Sentence("REASONS by rank: 6 LINE, 4 RECEIVED, 12 LATE, 2 EMPTY, 0 MODEM, 1 none")
    private static void everyReasonStandsBehindTheOneAbove() {
        SerialPort x = rows(3);
        x.frame(1, 9);
        x.wave(true, 1);
        x.clock(1000);
        x.write(1, 15);
        x.inputs(1);
        x.write(2, 1);
        due("LINE: read(2)", x.read(2), 198);
        x.read(5);
        due("RECEIVED: read(2)", x.read(2), 196);
        x.write(2, 0xC1);
        due("LATE: read(2)", x.read(2), 204);
        x.read(0);
        due("EMPTY: read(2)", x.read(2), 194);
        due("MODEM: read(2)", x.read(2), 192);
        due("told, it stays up: read(2)", x.read(2), 192);
        due("count(3)", x.count(3), 1);
        x.read(6);
        due("none: read(2)", x.read(2), 193);
        due("count(3)", x.count(3), 0);
    }

    @Sentence("REASONS by rank, if wanted")
    private static void whatIsNotWantedIsNotTold() {
        SerialPort x = rows(3);
        x.frame(1, 9);
        x.wave(true, 1);
        x.clock(1000);
        x.inputs(1);
        due("nothing is wanted: read(2)", x.read(2), 193);
        due("nothing is wanted: count(3)", x.count(3), 0);
        int[] wanted = {8, 10, 9, 12, 11, 2, 4, 1, 13, 0};
        int[] told = {192, 194, 204, 198, 204, 194, 198, 204, 198, 193};
        for (int i = 0; i < wanted.length; i++) {
            x.write(1, 0);
            x.write(1, wanted[i]);
            due("1 is " + wanted[i] + ": count(3)", x.count(3), wanted[i] == 0 ? 0 : 1);
            due("1 is " + wanted[i] + ": read(2)", x.read(2), told[i]);
        }
        x.write(2, 1);
        x.write(1, 1);
        due("LEVEL 1: read(2)", x.read(2), 196);
        x.write(1, 10);
        due("RECEIVED and LATE are not wanted: read(2)", x.read(2), 194);
        // Each reason alone, with all others wanted.
        SerialPort y = port(EIGHT_BITS);
        y.inputs(1);
        y.write(1, 7);
        due("EMPTY: read(2)", y.read(2), 2);
        due("MODEM is not wanted: read(2)", y.read(2), 1);
        y.read(6);
        y.write(1, 13);
        y.write(0, 1);
        y.clock(1);
        due("EMPTY is not wanted: read(2)", y.read(2), 1);
        y.write(1, 12);
        bring(y, 1);
        due("RECEIVED is not wanted: read(2)", y.read(2), 1);
        bring(y, 2);
        y.read(0);
        y.write(1, 9);
        due("LINE is not wanted: read(2)", y.read(2), 1);
        y.write(1, 4);
        due("LINE: read(2)", y.read(2), 6);
    }

    @Sentence("6 LINE (OVERRUN, or PARITY, FRAME, BREAK of the first character)")
    private static void lineOfEachFault() {
        dueLine(27, 1, 9, 0x65);
        dueLine(27, 1, 10, 0x69);
        dueLine(27, 0, 10, 0x79);
        SerialPort x = port(EIGHT_BITS);
        x.write(1, 4);
        bring(x, 1);
        due("no fault: count(3)", x.count(3), 0);
        bring(x, 2);
        due("OVERRUN: read(2)", x.read(2), 6);
        x.read(0);
        due("OVERRUN of an empty row: read(2)", x.read(2), 6);
        due("read(5)", x.read(5), 98);
        due("off: read(2)", x.read(2), 1);
        SerialPort y = rows(0);
        y.write(3, 27);
        y.write(1, 4);
        y.frame(1, -1);
        y.frame(1, 9);
        y.clock(352);
        due("the second one's is none: read(2)", y.read(2), 193);
        y.read(0);
        due("it is the first now: read(2)", y.read(2), 198);
        y.read(0);
        due("it went: read(2)", y.read(2), 193);
    }

    private static void dueLine(int control, int character, int flip, int state) {
        SerialPort x = port(control);
        x.write(1, 4);
        x.frame(character, flip);
        x.clock(176);
        due("frame(" + character + ", " + flip + "): read(2)", x.read(2), 6);
        due("it stays behind that: read(2)", x.read(2), 6);
        due("read(5)", x.read(5), state);
        due("off: read(2)", x.read(2), 1);
    }

    @Sentence("4 RECEIVED (ROWS off: not empty; on: as many as LEVEL or more)")
    private static void receivedWithRowsOff() {
        SerialPort x = rows(3);
        x.write(2, 0);
        x.write(1, 1);
        due("empty: read(2)", x.read(2), 1);
        x.frame(1, -1);
        x.clock(151);
        due("one BEAT before it comes: read(2)", x.read(2), 1);
        x.clock(1);
        due("LEVEL 14, but ROWS are off: read(2)", x.read(2), 4);
        due("it stays behind that: read(2)", x.read(2), 4);
        x.read(0);
        due("empty: read(2)", x.read(2), 1);
    }

    @Sentence("0 MODEM (a bit 0 .. 3 of 6)")
    private static void modemOfEachBit() {
        for (int k = 0; k <= 3; k++) {
            SerialPort x = new SerialPort();
            x.write(1, 8);
            x.inputs(1 << k);
            due("input " + k + " became on: count(3)", x.count(3), k == 2 ? 0 : 1);
            x.read(6);
            due("6 was read: read(2)", x.read(2), 1);
            x.inputs(0);
            due("input " + k + " became off: count(3)", x.count(3), 1);
            due("read(2)", x.read(2), 0);
            x.read(6);
            due("6 was read: read(2)", x.read(2), 1);
        }
    }

    @Sentence("EMPTY comes up when SENDING becomes empty as the sender takes its character")
    private static void emptyWhenTheSenderTakesTheLast() {
        SerialPort x = rows(0);
        x.write(1, 2);
        x.write(0, 1);
        x.write(0, 2);
        due("two: count(3)", x.count(3), 0);
        x.clock(160);
        due("one is left: count(3)", x.count(3), 0);
        x.clock(1);
        due("none is left: count(3)", x.count(3), 1);
        x.write(0, 3);
        x.write(2, 5);
        due("made empty otherwise: count(3)", x.count(3), 0);
        x.clock(400);
        due("count(3)", x.count(3), 0);
        x.write(0, 3);
        x.write(2, 0);
        due("made empty otherwise: count(3)", x.count(3), 0);
        x.write(0, 4);
        x.clock(1);
        due("ROWS off: count(3)", x.count(3), 1);
        x.write(1, 0);
        due("not wanted: read(2)", x.read(2), 1);
    }

    @Sentence("EMPTY comes up when bit 1 of 1 becomes 1 while SENDING is empty")
    private static void emptyWhenItBecomesWanted() {
        SerialPort x = port(EIGHT_BITS);
        x.write(1, 13);
        due("bit 1 is 0: read(2)", x.read(2), 1);
        x.write(1, 15);
        due("bit 1 became 1: read(2)", x.read(2), 2);
        x.write(1, 2);
        due("it was 1: read(2)", x.read(2), 1);
        x.write(1, 0);
        x.write(1, 2);
        due("it became 1 again: read(2)", x.read(2), 2);
        x.write(1, 0);
        x.write(0, 1);
        x.write(1, 2);
        due("SENDING is not empty: read(2)", x.read(2), 1);
        x.write(1, 0);
        x.clock(1);
        due("not wanted: read(2)", x.read(2), 1);
        x.write(1, 2);
        due("empty, while it is being sent: read(2)", x.read(2), 2);
        x.write(1, 0);
        x.write(3, DLAB);
        x.write(1, 2);
        x.write(3, EIGHT_BITS);
        due("the DIVISOR's byte is not 1: count(3)", x.count(3), 0);
    }

    @Sentence("EMPTY is down behind a writing of 0 (DLAB off)")
    private static void emptyIsDownBehindAWriting() {
        SerialPort x = port(EIGHT_BITS);
        x.write(1, 2);
        x.write(3, EIGHT_BITS | DLAB);
        x.write(0, 1);
        due("DLAB on: count(3)", x.count(3), 1);
        x.write(3, EIGHT_BITS);
        x.write(0, 1);
        due("DLAB off: count(3)", x.count(3), 0);
        x.write(2, 1);
        due("it stays down: count(3)", x.count(3), 0);
    }

    @Sentence("EMPTY is down behind a reading of 2 that tells it")
    private static void emptyIsDownWhenTold() {
        SerialPort x = port(EIGHT_BITS);
        x.write(1, 3);
        bring(x, 1);
        due("another one is told: read(2)", x.read(2), 4);
        x.write(1, 2);
        due("EMPTY is up still: read(2)", x.read(2), 2);
        due("told, down: read(2)", x.read(2), 1);
        x.write(1, 0);
        x.write(1, 2);
        x.write(1, 0);
        due("not wanted, not told: read(2)", x.read(2), 1);
        x.write(0, 1);
        x.clock(1);
        due("not wanted, not told: read(2)", x.read(2), 1);
        x.inputs(1);
        x.write(1, 10);
        due("before MODEM: read(2)", x.read(2), 2);
        due("MODEM: read(2)", x.read(2), 0);
    }

    @Sentence("LATE comes up when so many BEATS as four FRAMES have gone since a character came to RECEIVED")
    private static void lateSinceACharacterCame() {
        SerialPort x = rows(3);
        x.write(1, 1);
        x.frame(1, -1);
        x.clock(152);
        due("count(0)", x.count(0), 1);
        x.clock(639);
        due("639 BEATS: read(2)", x.read(2), 193);
        x.clock(1);
        due("640 BEATS: read(2)", x.read(2), 204);
        SerialPort y = rows(3);
        y.write(1, 1);
        y.frame(1, -1);
        y.clock(152);
        y.clock(480);
        y.frame(2, -1);
        y.clock(152);
        due("632 BEATS, another one came: count(0)", y.count(0), 2);
        y.clock(639);
        due("639 BEATS since then: read(2)", y.read(2), 193);
        y.clock(1);
        due("640 BEATS since then: read(2)", y.read(2), 204);
    }

    @Sentence("LATE comes up when so many BEATS as four FRAMES have gone since 0 was read")
    private static void lateSinceZeroWasRead() {
        SerialPort x = rows(3);
        x.write(1, 1);
        bringUpTo(x, 3);
        for (int i = 1; i <= 2; i++) {
            x.clock(600);
            x.read(0);
            x.clock(639);
            due("639 BEATS: read(2)", x.read(2), 193);
            x.clock(1);
            due("640 BEATS: read(2)", x.read(2), 204);
        }
        due("told, it stays up: read(2)", x.read(2), 204);
        due("count(3)", x.count(3), 1);
    }

    @Sentence("four FRAMES (of 3 as it is)")
    private static void lateByTheFrameAsItIs() {
        int[] controls = {0, 4, 1, 5, 2, 6, 3, 7, 8, 12, 11, 15, 31, 63, 67};
        int[] frames = {112, 120, 128, 144, 144, 160, 160, 176, 128, 136, 176, 192, 192, 192, 160};
        for (int i = 0; i < controls.length; i++) {
            SerialPort x = rows(3);
            x.write(1, 1);
            bringUpTo(x, 2);
            x.read(0);
            x.clock(100);
            x.write(3, controls[i]);
            x.clock(4 * frames[i] - 101);
            due("3 is " + controls[i] + ", one BEAT too few: read(2)", x.read(2), 193);
            x.clock(1);
            due("3 is " + controls[i] + ": read(2)", x.read(2), 204);
        }
        SerialPort y = rows(3);
        y.write(1, 1);
        bringUpTo(y, 2);
        y.read(0);
        y.clock(500);
        y.write(3, 0);
        y.clock(1);
        due("more than four have gone: read(2)", y.read(2), 204);
    }

    @Sentence("LATE: it not being empty")
    private static void noLateOfAnEmptyRow() {
        SerialPort x = rows(3);
        x.write(1, 1);
        x.clock(2000);
        due("at first: read(2)", x.read(2), 193);
        bring(x, 1);
        due("it came just now: read(2)", x.read(2), 193);
        x.read(0);
        x.clock(2000);
        due("empty: read(2)", x.read(2), 193);
        bring(x, 2);
        due("it came just now: read(2)", x.read(2), 193);
        due("count(3)", x.count(3), 0);
    }

    @Sentence("12 LATE (ROWS on; wanted with RECEIVED)")
    private static void lateIsWantedWithReceived() {
        SerialPort x = rows(3);
        bring(x, 1);
        x.clock(640);
        for (int wanted = 0; wanted <= 15; wanted++) {
            x.write(1, wanted & 13);
            due("1 is " + (wanted & 13) + ": read(2)", x.read(2), (wanted & 1) != 0 ? 204 : 193);
        }
        x.write(1, 1);
        x.write(2, 0);
        due("ROWS off: read(2)", x.read(2), 1);
        bring(x, 1);
        x.clock(2000);
        due("ROWS off: read(2)", x.read(2), 4);
    }

    @Sentence("LATE is down when 0 is read")
    private static void lateIsDownWhenZeroIsRead() {
        SerialPort x = rows(3);
        x.write(1, 1);
        bringUpTo(x, 3);
        x.clock(2000);
        due("read(2)", x.read(2), 204);
        bring(x, 4);
        due("one that comes leaves it up: read(2)", x.read(2), 204);
        x.read(5);
        x.read(6);
        x.write(0, 1);
        due("it stays: read(2)", x.read(2), 204);
        x.read(0);
        due("0 was read: read(2)", x.read(2), 193);
        x.clock(1);
        due("read(2)", x.read(2), 193);
    }

    @Sentence("LATE is down when RECEIVED becomes empty otherwise")
    private static void lateIsDownWhenTheRowIsMadeEmpty() {
        SerialPort x = rows(3);
        x.write(1, 1);
        bring(x, 1);
        x.clock(640);
        x.write(2, 0xC5);
        due("SENDING is made empty: read(2)", x.read(2), 204);
        x.write(2, 0xC3);
        due("RECEIVED is made empty: read(2)", x.read(2), 193);
        bring(x, 2);
        due("a new one is not late: read(2)", x.read(2), 193);
        x.clock(640);
        due("read(2)", x.read(2), 204);
        x.write(2, 0);
        x.write(2, 0xC1);
        due("off and on: read(2)", x.read(2), 193);
        bring(x, 3);
        due("a new one is not late: read(2)", x.read(2), 193);
    }

    // ------------------------------------------------------------ terms 2: the clock

    @Sentence("CLOCKS: each DIVISOR-th one is a BEAT")
    private static void eachDivisorthClock() {
        int[] divisors = {1, 2, 3, 255, 256, 257, 60000};
        int[] ofSixtyThousand = {60000, 30000, 20000, 235, 234, 233, 1};
        for (int i = 0; i < divisors.length; i++) {
            SerialPort x = new SerialPort();
            setDivisor(x, divisors[i], EIGHT_BITS);
            due("DIVISOR " + divisors[i] + ": clock, one too few", x.clock(divisors[i] - 1), 0);
            due("DIVISOR " + divisors[i] + ": clock(1)", x.clock(1), 1);
            due("DIVISOR " + divisors[i] + ": clock(60000)", x.clock(60000), ofSixtyThousand[i]);
            due("DIVISOR " + divisors[i] + ": count(2)", x.count(2), 1 + ofSixtyThousand[i]);
        }
        SerialPort y = new SerialPort();
        setDivisor(y, 65535, EIGHT_BITS);
        due("the largest: clock(60000)", y.clock(60000), 0);
        due("the largest: clock(5534)", y.clock(5534), 0);
        due("the largest: clock(1)", y.clock(1), 1);
        due("the largest: clock(60000)", y.clock(60000), 0);
        due("the largest: clock(60000)", y.clock(60000), 1);
        due("54465 were over: clock(11069)", y.clock(11069), 0);
        due("clock(1)", y.clock(1), 1);
    }

    @Sentence("counted from the latest writing of the DIVISOR on")
    private static void countedFromTheLatestWriting() {
        SerialPort x = new SerialPort();
        setDivisor(x, 5, EIGHT_BITS);
        x.clock(4);
        x.write(3, DLAB);
        x.read(0);
        x.read(1);
        x.write(3, EIGHT_BITS);
        x.write(0, 5);
        x.write(1, 0);
        due("no writing of it: clock(1)", x.clock(1), 1);
        x.clock(4);
        x.write(3, DLAB);
        x.write(0, 5);
        due("the lower byte was written: clock(4)", x.clock(4), 0);
        x.write(1, 0);
        due("the higher byte was written: clock(4)", x.clock(4), 0);
        due("clock(1)", x.clock(1), 1);
        x.clock(4);
        x.write(0, 2);
        due("a smaller one: clock(1)", x.clock(1), 0);
        due("clock(1)", x.clock(1), 1);
    }

    @Sentence("with DIVISOR 0 none")
    private static void noBeatWithDivisorZero() {
        SerialPort x = new SerialPort();
        due("at first: clock(60000)", x.clock(60000), 0);
        setDivisor(x, 1, EIGHT_BITS);
        due("clock(2)", x.clock(2), 2);
        x.write(0, 1);
        x.wave(false, 10);
        setDivisor(x, 0, EIGHT_BITS);
        due("clock(60000)", x.clock(60000), 0);
        due("count(2)", x.count(2), 2);
        due("nothing was sent: count(1)", x.count(1), 1);
        due("nothing came: count(5)", x.count(5), 1);
        setDivisor(x, 3, EIGHT_BITS);
        due("those before do not count: clock(2)", x.clock(2), 0);
        due("clock(1)", x.clock(1), 1);
    }

    @Sentence("16 BEATS are a bit")
    private static void sixteenBeatsAreABit() {
        SerialPort x = port(EIGHT_BITS);
        x.write(0, 0x55);
        x.clock(160);
        due("low and high by turns: count(6)", x.count(6), 10);
        for (int i = 0; i < 10; i++) {
            due("run(" + i + ", 0)", x.run(i, 0), 1 - i % 2);
            due("run(" + i + ", 1)", x.run(i, 1), 16);
        }
    }

    @Sentence("In a BEAT, in this order: the sender; the line that comes in; the receiver; LATE")
    private static void theOrderInABeat() {
        SerialPort x = port(EIGHT_BITS);
        x.write(4, 16);
        x.write(0, 1);
        x.clock(1);
        due("the sender before the receiver: count(8)", x.count(8), 1);
        SerialPort y = port(EIGHT_BITS);
        y.wave(false, 1);
        y.clock(1);
        due("the line before the receiver: count(8)", y.count(8), 1);
        due("count(5)", y.count(5), 0);
        SerialPort z = rows(3);
        z.write(1, 1);
        bringUpTo(z, 2);
        z.read(0);
        z.wave(true, 488);
        z.frame(3, -1);
        z.clock(639);
        due("count(0)", z.count(0), 1);
        z.clock(1);
        due("it comes in the 640th BEAT: count(0)", z.count(0), 2);
        due("the receiver before LATE: read(2)", z.read(2), 193);
    }

    @Sentence("the line that comes in (the next level of the WAVE, else as it was)")
    private static void behindTheWaveTheLineIsAsItWas() {
        SerialPort x = port(EIGHT_BITS);
        x.wave(false, 1);
        x.clock(152);
        due("low, as it was: read(5)", x.read(5), 0x79);
        x.clock(1000);
        due("count(8)", x.count(8), 0);
        x.wave(true, 1);
        x.clock(500);
        due("high, as it was: count(8)", x.count(8), 0);
        due("read(5)", x.read(5), 0x61);
        x.wave(false, 8);
        x.wave(true, 1);
        x.clock(152);
        due("ROWS off, another one came: read(5)", x.read(5), 0x63);
        due("high, as it was: read(0)", x.read(0), 255);
    }

    // ------------------------------------------------------------ terms 2: the sender, the receiver

    @Sentence("THE SENDER: if it is not sending, and SENDING is not empty, its first character goes")
    private static void theSenderTakesTheFirst() {
        SerialPort x = rows(0);
        x.clock(3);
        due("empty: count(7)", x.count(7), 0);
        x.write(0, 0);
        due("no BEAT yet: count(1)", x.count(1), 1);
        due("no BEAT yet: count(7)", x.count(7), 0);
        due("no BEAT yet: count(4)", x.count(4), 1);
        x.write(0, 255);
        x.clock(1);
        due("the first went: count(1)", x.count(1), 1);
        due("a FRAME begins with this BEAT: count(4)", x.count(4), 0);
        due("count(7)", x.count(7), 1);
        x.clock(159);
        due("it is sending: count(1)", x.count(1), 1);
        due("its last BEAT is over: count(7)", x.count(7), 0);
        x.clock(1);
        due("the second begins: count(1)", x.count(1), 0);
        due("count(4)", x.count(4), 0);
        x.clock(16);
        due("the second is 255: count(4)", x.count(4), 1);
        due("the first was 0: run(3, 1)", x.run(3, 1), 144);
    }

    @Sentence("low for a bit; the character's bits, the lowest first; the parity bit, if any; high for the STOP")
    private static void theFrameThatGoesOut() {
        dueSent(3, 0x01, "0100000001");
        dueSent(3, 0x80, "0000000011");
        dueSent(0, 0xE1, "0100001");
        dueSent(0, 0x10, "0000011");
        dueSent(1, 0x20, "00000011");
        dueSent(2, 0x40, "000000011");
        dueSent(2, 0x80, "000000001");
        dueSent(27, 0x80, "00000000111");
        dueSent(11, 0x80, "00000000101");
    }

    /** One level a bit. */
    private static void dueSent(int control, int character, String levels) {
        SerialPort x = port(control);
        x.write(0, character);
        for (int i = 0; i < levels.length(); i++) {
            int level = levels.charAt(i) - '0';
            String about = "3 is " + control + ", character " + character + ", bit " + i;
            x.clock(1);
            due(about + ", first BEAT: count(4)", x.count(4), level);
            x.clock(14);
            x.clock(1);
            due(about + ", last BEAT: count(4)", x.count(4), level);
        }
        due("3 is " + control + ": count(7)", x.count(7), 0);
    }

    @Sentence("THE SENDER: (By 3 as it is when it begins.)")
    private static void theSenderKeepsThreeAsItWas() {
        SerialPort x = rows(0);
        x.write(0, 0);
        x.write(0, 0);
        x.clock(1);
        x.write(3, 0);
        x.clock(158);
        due("8 bits still: count(7)", x.count(7), 1);
        x.clock(1);
        due("count(7)", x.count(7), 0);
        due("run(1, 1)", x.run(1, 1), 144);
        x.clock(1);
        x.write(3, 31);
        x.clock(110);
        due("5 bits: count(7)", x.count(7), 1);
        x.clock(1);
        due("count(7)", x.count(7), 0);
        due("run(1, 1)", x.run(1, 1), 96);
        SerialPort y = port(EIGHT_BITS);
        y.write(0, 255);
        y.write(3, 0);
        y.clock(112);
        due("3 written behind 0, before the BEAT: count(7)", y.count(7), 0);
    }

    @Sentence("THE SENDER: Else the line is high")
    private static void theIdleLineIsHigh() {
        SerialPort x = port(EIGHT_BITS);
        x.clock(60000);
        due("count(4)", x.count(4), 1);
        x.write(0, 0);
        x.clock(160);
        x.clock(1000);
        due("count(4)", x.count(4), 1);
        due("STOP and idle are one: run(0, 1)", x.run(0, 1), 1016);
        due("run(2, 1)", x.run(2, 1), 60000);
        due("count(6)", x.count(6), 3);
    }

    @Sentence("THE RECEIVER, while idle: if the line is low, this is BEAT 0 of a FRAME")
    private static void aLowLineIsBeatZero() {
        SerialPort x = port(EIGHT_BITS);
        x.wave(true, 5);
        x.wave(false, 24);
        x.wave(true, 300);
        x.clock(5);
        due("high: count(8)", x.count(8), 0);
        x.clock(1);
        due("low: count(8)", x.count(8), 1);
        x.clock(150);
        due("BEAT 150: count(8)", x.count(8), 1);
        x.clock(1);
        due("BEAT 151: count(8)", x.count(8), 0);
        due("low at BEAT 23 alone: read(0)", x.read(0), 0xFE);
    }

    @Sentence("and was high in a BEAT since the latest FRAME")
    private static void noFrameWithoutAHigh() {
        SerialPort x = port(EIGHT_BITS);
        x.wave(false, 4000);
        x.wave(true, 1);
        x.wave(false, 4000);
        x.clock(152);
        due("a BREAK: read(5)", x.read(5), 0x79);
        x.clock(3848);
        due("low all the time: count(8)", x.count(8), 0);
        due("read(5)", x.read(5), 0x61);
        x.clock(1);
        due("high for a BEAT: count(8)", x.count(8), 0);
        x.clock(1);
        due("low: count(8)", x.count(8), 1);
        x.clock(151);
        due("another BREAK: read(5)", x.read(5), 0x7B);
    }

    @Sentence("(the BEAT in which its STOP was seen counts, if it was high; or at first)")
    private static void theStopsOwnBeatCounts() {
        SerialPort x = port(EIGHT_BITS);
        x.wave(false, 151);
        x.wave(true, 1);
        x.wave(false, 500);
        x.clock(1);
        due("low at first, in the first BEAT: count(8)", x.count(8), 1);
        x.clock(151);
        due("STOP is high in its BEAT alone: read(5)", x.read(5), 0x61);
        due("count(8)", x.count(8), 0);
        x.clock(1);
        due("low in the next BEAT: count(8)", x.count(8), 1);

        SerialPort y = port(EIGHT_BITS);
        y.wave(false, 150);
        y.wave(true, 1);
        y.wave(false, 500);
        y.clock(152);
        due("high one BEAT too soon: read(5)", y.read(5), 0x79);
        y.clock(100);
        due("that does not count: count(8)", y.count(8), 0);

        SerialPort z = port(EIGHT_BITS);
        z.wave(false, 152);
        z.wave(true, 1);
        z.wave(false, 500);
        z.clock(152);
        due("high one BEAT too late: read(5)", z.read(5), 0x79);
        z.clock(2);
        due("it is since then: count(8)", z.count(8), 1);
    }

    @Sentence("BEAT 0 of a FRAME (by 3 as it is then)")
    private static void theReceiverKeepsThreeAsItWas() {
        SerialPort x = port(EIGHT_BITS);
        x.frame(0xA0, -1);
        x.clock(1);
        x.write(3, 24);
        x.clock(150);
        due("8 bits still: count(8)", x.count(8), 1);
        x.clock(1);
        due("read(5)", x.read(5), 0x61);
        due("read(0)", x.read(0), 0xA0);
        x.clock(8);
        x.frame(31, -1);
        x.clock(119);
        due("5 bits, parity: count(8)", x.count(8), 1);
        x.clock(1);
        due("read(5)", x.read(5), 0x61);
        due("read(0)", x.read(0), 31);
    }

    @Sentence("At BEAT 7 the line high: it is idle again, nothing came")
    private static void theStartIsSeenAtBeatSeven() {
        SerialPort x = port(EIGHT_BITS);
        x.wave(false, 7);
        x.wave(true, 1);
        x.wave(false, 9);
        x.clock(7);
        due("BEAT 6: count(8)", x.count(8), 1);
        x.clock(1);
        due("high at BEAT 7: count(8)", x.count(8), 0);
        due("nothing came: count(0)", x.count(0), 0);
        x.clock(1);
        due("low again: count(8)", x.count(8), 1);

        SerialPort y = port(EIGHT_BITS);
        y.wave(false, 1);
        y.wave(true, 6);
        y.wave(false, 1);
        y.wave(true, 300);
        y.clock(8);
        due("low at BEATS 0 and 7 alone: count(8)", y.count(8), 1);
        y.clock(144);
        due("read(0)", y.read(0), 255);
        due("read(5)", y.read(5), 0x60);

        SerialPort z = port(EIGHT_BITS);
        z.wave(false, 6);
        z.wave(true, 300);
        z.clock(200);
        due("low for six: count(0)", z.count(0), 0);
        due("read(5)", z.read(5), 0x60);
    }

    @Sentence("At BEATS 23, 39 .. bits, the parity bit, the STOP are seen")
    private static void onlyTheMiddleOfABitIsSeen() {
        for (int k = 0; k <= 7; k++) {
            SerialPort x = port(EIGHT_BITS);
            x.wave(false, 23 + 16 * k);
            x.wave(true, 1);
            x.wave(false, 127 - 16 * k);
            x.wave(true, 1);
            x.clock(152);
            due("high at BEAT " + (23 + 16 * k) + ": read(5)", x.read(5), 0x61);
            due("high at BEAT " + (23 + 16 * k) + ": read(0)", x.read(0), 1 << k);

            SerialPort y = port(EIGHT_BITS);
            y.wave(false, 8);
            y.wave(true, 15 + 16 * k);
            y.wave(false, 1);
            y.wave(true, 300);
            y.clock(152);
            due("low at BEAT " + (23 + 16 * k) + ": read(0)", y.read(0), 255 - (1 << k));
        }
        SerialPort z = port(11);
        z.wave(false, 151);
        z.wave(true, 1);
        z.wave(false, 15);
        z.wave(true, 1);
        z.clock(167);
        due("BEAT 166: count(8)", z.count(8), 1);
        z.clock(1);
        due("the parity bit at 151, the STOP at 167: read(5)", z.read(5), 0x61);
    }

    @Sentence("PARITY is wrong, if there is one and it is another one")
    private static void parityIsWrong() {
        int[] controls = {11, 27, 43, 59};
        for (int control : controls) {
            for (int character : new int[] {1, 2, 254, 255}) {
                dueSeen(control, character, 9, 0x65);
                dueSeen(control, character, -1, 0x61);
            }
        }
        dueSeen(11, 3, 1, 0x65);
        dueSeen(27, 3, 8, 0x65);
        // With a stuck one a flipped bit is not found.
        dueSeen(43, 3, 1, 0x61);
        dueSeen(59, 3, 1, 0x61);
        dueSeen(3, 3, 1, 0x61);
        dueSeen(35, 3, 1, 0x61);
    }

    private static void dueSeen(int control, int character, int flip, int state) {
        SerialPort x = port(control);
        x.frame(character, flip);
        x.clock(176);
        due("3 is " + control + ", frame(" + character + ", " + flip + "): read(5)", x.read(5), state);
    }

    @Sentence("FRAME, if the STOP is low")
    private static void frameIfTheStopIsLow() {
        dueSeen(3, 1, 9, 0x69);
        dueSeen(3, 255, 9, 0x69);
        dueSeen(11, 1, 10, 0x69);
        SerialPort x = port(EIGHT_BITS);
        x.wave(false, 16);
        x.wave(true, 135);
        x.wave(false, 1);
        x.wave(true, 8);
        x.clock(152);
        due("low at BEAT 151 alone: read(5)", x.read(5), 0x69);
        due("the character comes: read(0)", x.read(0), 255);
        SerialPort y = port(7);
        y.wave(false, 16);
        y.wave(true, 136);
        y.wave(false, 24);
        y.clock(152);
        due("of two bits the first alone is seen: read(5)", y.read(5), 0x61);
    }

    @Sentence("BREAK, if all that was seen is low (FRAME, too)")
    private static void breakIfAllIsLow() {
        dueSeen(3, 0, 9, 0x79);
        dueSeen(27, 0, 10, 0x79);
        dueSeen(59, 0, 10, 0x79);
        // One high: a bit, the parity bit, the STOP.
        dueSeen(3, 1, 9, 0x69);
        dueSeen(3, 128, 9, 0x69);
        dueSeen(11, 0, 10, 0x69);
        dueSeen(3, 0, -1, 0x61);
        SerialPort x = port(0);
        x.wave(false, 104);
        x.clock(104);
        due("5 bits: read(5)", x.read(5), 0x79);
        due("character 0 comes: count(0)", x.count(0), 1);
        due("read(0)", x.read(0), 0);
        SerialPort y = port(11);
        y.wave(false, 168);
        y.clock(168);
        due("its parity bit is wrong, too: read(5)", y.read(5), 0x7D);
        SerialPort z = port(EIGHT_BITS);
        z.wave(false, 1);
        z.wave(true, 6);
        z.wave(false, 8);
        z.wave(true, 4);
        z.wave(false, 200);
        z.clock(152);
        due("highs that were not seen: read(5)", z.read(5), 0x79);
    }

    @Sentence("if that is full: OVERRUN; with ROWS off it takes the one's place")
    private static void withRowsOffTheOnesPlaceIsTaken() {
        SerialPort x = port(27);
        x.frame(1, 9);
        x.frame(2, -1);
        x.frame(3, 10);
        x.clock(352);
        due("count(0)", x.count(0), 1);
        due("OVERRUN, the second has no fault: read(5)", x.read(5), 0x63);
        x.clock(176);
        due("OVERRUN, the third has FRAME: read(5)", x.read(5), 0x6B);
        due("count(0)", x.count(0), 1);
        due("read(0)", x.read(0), 3);
        due("read(0)", x.read(0), 0);
        due("count(0)", x.count(0), 0);
    }

    @Sentence("if that is full: OVERRUN; with ROWS on it is lost")
    private static void withRowsOnItIsLost() {
        SerialPort x = rows(0);
        bringUpTo(x, 16);
        due("full: read(5)", x.read(5), 0x61);
        x.frame(77, 9);
        x.wave(true, 8);
        x.clock(168);
        due("lost, with its FRAME: read(5)", x.read(5), 0x63);
        due("count(0)", x.count(0), 16);
        due("read(0)", x.read(0), 1);
        bring(x, 18);
        due("room for one: read(5)", x.read(5), 0x61);
        for (int i = 2; i <= 16; i++) {
            due("read(0)", x.read(0), i);
        }
        due("the 18th is behind the 16th: read(0)", x.read(0), 18);
        due("read(0)", x.read(0), 0);
    }

    @Sentence("It is idle then.")
    private static void behindTheStopTheReceiverIsIdle() {
        SerialPort x = port(7);
        x.wave(false, 16);
        x.wave(true, 136);
        x.wave(false, 16);
        x.wave(true, 300);
        x.clock(152);
        due("count(8)", x.count(8), 0);
        x.clock(1);
        due("the next BEAT begins another one: count(8)", x.count(8), 1);
        due("count(0)", x.count(0), 1);
        x.clock(151);
        due("it came: read(5)", x.read(5), 0x63);
    }

    // ------------------------------------------------------------ promises 4 to 10

    @Sentence("Promise 4: So many CLOCKS (0 .. 60000) go: how many BEATS. NONE for another n.")
    private static void clocksFromZeroToSixtyThousand() {
        SerialPort x = new SerialPort();
        setDivisor(x, 2, EIGHT_BITS);
        due("clock(0)", x.clock(0), 0);
        due("clock(1)", x.clock(1), 0);
        for (int n : new int[] {-1, 60001, 60002, 65536, 120000, MIN, MIN + 1, MAX}) {
            due("clock(" + n + ")", x.clock(n), -1);
        }
        due("count(2)", x.count(2), 0);
        due("those were none: clock(1)", x.clock(1), 1);
        due("clock(0)", x.clock(0), 0);
        due("clock(60000)", x.clock(60000), 30000);
        due("clock(59999)", x.clock(59999), 29999);
        due("count(2)", x.count(2), 60000);
        due("NONE with DIVISOR 0, too: clock(60001)", new SerialPort().clock(60001), -1);
        due("NONE with DIVISOR 0, too: clock(-1)", new SerialPort().clock(-1), -1);
    }

    @Sentence("Promise 5: A level for so many BEATS (1 .. 4000) .. NONE for others")
    private static void piecesFromOneToFourThousand() {
        SerialPort x = port(EIGHT_BITS);
        for (int beats : new int[] {0, -1, 4001, 4002, 65537, MIN, MIN + 1, MAX}) {
            due("wave(true, " + beats + ")", x.wave(true, beats), -1);
            due("wave(false, " + beats + ")", x.wave(false, beats), -1);
        }
        due("count(5)", x.count(5), 0);
        x.clock(10);
        due("none came: count(8)", x.count(8), 0);
        due("wave(true, 4000)", x.wave(true, 4000), 1);
        due("wave(false, 1)", x.wave(false, 1), 2);
        due("wave(true, 1)", x.wave(true, 1), 3);
        x.clock(3999);
        due("one BEAT of it is left: count(5)", x.count(5), 3);
        x.clock(1);
        due("count(5)", x.count(5), 2);
        due("high: count(8)", x.count(8), 0);
        x.clock(1);
        due("count(5)", x.count(5), 1);
        due("low: count(8)", x.count(8), 1);
        x.clock(1);
        due("count(5)", x.count(5), 0);
        SerialPort y = port(EIGHT_BITS);
        due("wave(false, 4000)", y.wave(false, 4000), 1);
        y.clock(4000);
        due("count(5)", y.count(5), 0);
    }

    /** A port whose WAVE has 490 pieces: 70 FRAMES of 5 bits, of 7 pieces each. */
    private static SerialPort nearlyFull() {
        SerialPort x = port(0);
        for (int i = 1; i <= 70; i++) {
            due("frame", x.frame(i, -1), 7);
        }
        due("count(5)", x.count(5), 490);
        return x;
    }

    @Sentence("Promise 5: how many pieces it has (500 at most). NONE .. if it is full.")
    private static void fiveHundredPieces() {
        SerialPort x = nearlyFull();
        for (int i = 491; i <= 500; i++) {
            due("wave(true, 10)", x.wave(true, 10), i);
        }
        due("full: wave(true, 1)", x.wave(true, 1), -1);
        due("full: wave(false, 4000)", x.wave(false, 4000), -1);
        due("count(5)", x.count(5), 500);
        x.clock(15);
        due("the first has a BEAT left: wave(false, 7)", x.wave(false, 7), -1);
        x.clock(1);
        due("it is gone: count(5)", x.count(5), 499);
        due("room for one: wave(false, 7)", x.wave(false, 7), 500);
        due("full: wave(false, 7)", x.wave(false, 7), -1);
        x.clock(70 * 112 - 16 + 100);
        due("the last one is left: count(5)", x.count(5), 1);
        due("count(8)", x.count(8), 0);
        x.clock(1);
        due("low: count(8)", x.count(8), 1);
        x.clock(6);
        due("count(5)", x.count(5), 0);
    }

    @Sentence("Promise 5: A level comes behind the WAVE (which goes round and round)")
    private static void theWaveWrapsAround() {
        SerialPort x = nearlyFull();
        x.clock(69 * 112);
        due("count(5)", x.count(5), 7);
        for (int i = 0; i < 60; i++) {
            due("frame", x.frame(i, -1), 7);
        }
        due("count(5)", x.count(5), 427);
        x.clock(112);
        x.read(0);
        for (int i = 0; i < 60; i++) {
            x.clock(112);
            due("read(0)", x.read(0), i & 31);
        }
        due("count(5)", x.count(5), 0);
        due("none was lost: read(5)", x.read(5), 0x62);
    }

    @Sentence("Promise 6: A FRAME for a character comes behind the WAVE, by 3 as it is")
    private static void aFrameByThreeAsItIs() {
        int[] pieces = {7, 8, 9, 10};
        int[] stops = {24, 32, 32, 32};
        for (int code = 0; code <= 3; code++) {
            dueFrame(code, pieces[code], 16);
            dueFrame(code | 4, pieces[code], stops[code]);
            dueFrame(code | 8, pieces[code] + 1, 16);
            dueFrame(code | 12, pieces[code] + 1, stops[code]);
        }
        SerialPort x = port(EIGHT_BITS);
        x.wave(true, 3);
        due("behind the WAVE: frame(1, -1)", x.frame(1, -1), 10);
        due("count(5)", x.count(5), 11);
        x.write(3, 0);
        due("3 as it is now: frame(1, -1)", x.frame(1, -1), 7);
        due("count(5)", x.count(5), 18);
        x.write(3, EIGHT_BITS);
        x.clock(3);
        due("count(8)", x.count(8), 0);
        x.clock(160);
        due("read(0)", x.read(0), 1);
        due("count(5)", x.count(5), 7);
    }

    private static void dueFrame(int control, int pieces, int stop) {
        String about = "3 is " + control + ": ";
        SerialPort x = port(control);
        due(about + "frame(0, -1)", x.frame(0, -1), pieces);
        due(about + "count(5)", x.count(5), pieces);
        x.clock(16 * (pieces - 1));
        due(about + "the STOP is left: count(5)", x.count(5), 1);
        x.clock(stop - 1);
        due(about + "a BEAT of it is left: count(5)", x.count(5), 1);
        x.clock(1);
        due(about + "count(5)", x.count(5), 0);
        due(about + "read(5)", x.read(5), 0x61);
    }

    @Sentence("Promise 6: A FRAME for a character (its bits are as many as 3 says)")
    private static void charactersTooLarge() {
        int[] characters = {-1, 256, 0x1A5, MIN, MAX, 255, 0};
        int[] eight = {255, 0, 0xA5, 0, 255, 255, 0};
        int[] five = {31, 0, 5, 0, 31, 31, 0};
        for (int i = 0; i < characters.length; i++) {
            SerialPort x = port(27);
            due("frame(" + characters[i] + ", -1)", x.frame(characters[i], -1), 11);
            x.clock(176);
            due("8 bits, the parity bit is theirs: read(5)", x.read(5), 0x61);
            due("8 bits: read(0)", x.read(0), eight[i]);
            SerialPort y = port(8);
            due("frame(" + characters[i] + ", -1)", y.frame(characters[i], -1), 8);
            y.clock(128);
            due("5 bits, the parity bit is theirs: read(5)", y.read(5), 0x61);
            due("5 bits: read(0)", y.read(0), five[i]);
        }
    }

    @Sentence("Promise 6: flip: bit k (0 .. 12) of it, the start being 0, the STOP the last one, is the contrary")
    private static void eachBitCanBeTheContrary() {
        SerialPort x = port(27);
        x.frame(0x33, 0);
        x.clock(16);
        due("the start is high: count(8)", x.count(8), 0);
        for (int k = 1; k <= 8; k++) {
            SerialPort y = port(27);
            due("frame", y.frame(0x33, k), 11);
            y.clock(176);
            due("flip " + k + ": read(5)", y.read(5), 0x65);
            due("flip " + k + ": read(0)", y.read(0), 0x33 ^ 1 << k - 1);
        }
        dueSeen(27, 0x33, 9, 0x65);
        dueSeen(27, 0x33, 10, 0x69);
        dueSeen(3, 0x33, 9, 0x69);
        dueSeen(0, 0x11, 6, 0x69);
        dueSeen(4, 0x11, 6, 0x69);
        dueSeen(15, 0x11, 10, 0x69);
        SerialPort z = port(7);
        z.frame(1, 9);
        z.clock(152);
        z.clock(23);
        due("a STOP of two bits is the contrary to its end: count(5)", z.count(5), 1);
        due("count(8)", z.count(8), 0);
        z.clock(1);
        z.wave(false, 50);
        z.clock(50);
        due("it was low to its last BEAT: count(8)", z.count(8), 0);
    }

    @Sentence("Promise 6: (other flips: none)")
    private static void otherFlipsAreNone() {
        for (int flip : new int[] {-1, -2, 11, 12, 13, 14, 31, 32, 33, 42, 64, 256, 265, MIN, MIN + 9, MAX}) {
            SerialPort x = port(27);
            due("frame(51, " + flip + ")", x.frame(0x33, flip), 11);
            x.clock(176);
            due("flip " + flip + ": read(5)", x.read(5), 0x61);
            due("flip " + flip + ": read(0)", x.read(0), 0x33);
        }
        dueSeen(3, 0x33, 10, 0x61);
        dueSeen(0, 0x11, 7, 0x61);
    }

    @Sentence("Promise 6: NONE: there is no room")
    private static void noRoomForAFrame() {
        SerialPort x = nearlyFull();
        x.write(3, 11);
        due("eleven have no room: frame(1, -1)", x.frame(1, -1), -1);
        due("not a piece came: count(5)", x.count(5), 490);
        x.write(3, 3);
        due("ten have room: frame(1, -1)", x.frame(1, -1), 10);
        due("count(5)", x.count(5), 500);
        x.write(3, 0);
        due("full: frame(1, -1)", x.frame(1, -1), -1);
        x.clock(96);
        due("count(5)", x.count(5), 494);
        due("six pieces of room: frame(1, -1)", x.frame(1, -1), -1);
        x.clock(15);
        due("six pieces of room: frame(1, -1)", x.frame(1, -1), -1);
        x.clock(1);
        due("seven pieces of room: frame(1, -1)", x.frame(1, -1), 7);
        due("count(5)", x.count(5), 500);
    }

    @Sentence("Promise 7: Inputs CTS, DSR, RI, DCD by bits 0 .. 3: true; false for another number")
    private static void inputsFromZeroToFifteen() {
        SerialPort x = new SerialPort();
        for (int bits = 0; bits <= 15; bits++) {
            due("inputs(" + bits + ")", x.inputs(bits), true);
            due("read(6)", x.read(6) >> 4, bits);
        }
        for (int bits : new int[] {-1, 16, 17, 31, 32, 256, -16, MIN, MAX}) {
            due("inputs(" + bits + ")", x.inputs(bits), false);
            due("they stay: read(6)", x.read(6), 0xF0);
        }
    }

    @Sentence("Promise 7: (Not seen in LOOP.)")
    private static void inputsAreNotSeenInLoop() {
        SerialPort x = new SerialPort();
        x.write(4, 16);
        due("inputs(15)", x.inputs(15), true);
        due("read(6)", x.read(6), 0);
        due("in LOOP, too: inputs(16)", x.inputs(16), false);
        due("inputs(9)", x.inputs(9), true);
        due("inputs(6)", x.inputs(6), true);
        due("read(6)", x.read(6), 0);
        x.write(4, 0);
        due("the latest are seen behind it: read(6)", x.read(6), 0x62);
    }

    @Sentence("Promise 8: The power goes off and on: all as at first")
    private static void resetMakesAllAsAtFirst() {
        SerialPort x = rows(3);
        x.write(1, 15);
        x.write(7, 77);
        x.inputs(15);
        bringUpTo(x, 17);
        x.write(3, 27);
        x.frame(1, 9);
        x.clock(1000);
        x.write(4, 31);
        for (int i = 0; i < 5; i++) {
            x.write(0, i);
        }
        x.clock(20);
        x.write(4, 0);
        x.write(3, 67);
        x.frame(0, -1);
        x.wave(false, 4000);
        x.clock(30);
        x.reset();
        dueAtFirst(x);
        x.reset();
        x.reset();
        setDivisor(x, 1, EIGHT_BITS);
        x.write(1, 1);
        x.write(2, 0);
        bring(x, 9);
        due("ROWS are off: read(2)", x.read(2), 4);
        due("read(0)", x.read(0), 9);
    }

    @Sentence("Promise 8: all as at first (with LOOP, outputs and inputs on)")
    private static void resetEndsLoop() {
        SerialPort x = new SerialPort();
        x.inputs(15);
        x.write(4, 31);
        x.reset();
        due("outputs are off, no LOOP: read(4)", x.read(4), 0);
        due("inputs are off, none became so: read(6)", x.read(6), 0);
        x.write(4, 15);
        due("inputs are off: read(6)", x.read(6), 0);
        setDivisor(x, 1, EIGHT_BITS);
        x.wave(false, 16);
        x.clock(1);
        due("no LOOP, the line is heard: count(8)", x.count(8), 1);
    }

    @Sentence("Promise 8: all as at first (in the midst of FRAMES that go and come)")
    private static void resetEndsFrames() {
        SerialPort x = port(EIGHT_BITS);
        x.write(0, 0);
        x.frame(0, -1);
        x.clock(50);
        due("count(7)", x.count(7), 1);
        due("count(8)", x.count(8), 1);
        x.reset();
        due("count(7)", x.count(7), 0);
        due("count(8)", x.count(8), 0);
        setDivisor(x, 1, EIGHT_BITS);
        x.clock(200);
        due("nothing goes: count(6)", x.count(6), 1);
        due("run(0, 0)", x.run(0, 0), 1);
        due("nothing comes: count(0)", x.count(0), 0);

        SerialPort y = port(EIGHT_BITS);
        y.wave(false, 200);
        y.clock(200);
        y.reset();
        setDivisor(y, 1, EIGHT_BITS);
        y.wave(false, 200);
        y.clock(1);
        due("as at first a low line is BEAT 0: count(8)", y.count(8), 1);

        SerialPort z = new SerialPort();
        setDivisor(z, 5, EIGHT_BITS);
        z.clock(4);
        z.reset();
        due("DIVISOR 0: clock(60000)", z.clock(60000), 0);
        z.inputs(2);
        due("inputs were off: read(6)", z.read(6), 0x22);
    }

    @Sentence("Promise 8: (the WAVE, RUNS too)")
    private static void resetEmptiesWaveAndRuns() {
        SerialPort x = nearlyFull();
        x.write(0, 0x55);
        x.clock(300);
        due("RUNS of 5 bits: count(6)", x.count(6), 6);
        x.reset();
        due("count(5)", x.count(5), 0);
        due("count(6)", x.count(6), 0);
        due("count(4)", x.count(4), 1);
        due("run(0, 0)", x.run(0, 0), -1);
        due("run(0, 1)", x.run(0, 1), -1);
        due("wave(true, 1)", x.wave(true, 1), 1);
        setDivisor(x, 1, 0);
        x.clock(2);
        due("run(0, 1)", x.run(0, 1), 2);
        due("run(1, 1)", x.run(1, 1), -1);
    }

    @Sentence("Promise 9: NONE for another what")
    private static void noSuchCount() {
        SerialPort x = port(EIGHT_BITS);
        for (int what : new int[] {-1, 9, 10, 16, 32, 256, MIN, MAX}) {
            due("count(" + what + ")", x.count(what), -1);
        }
    }

    @Sentence("Promise 9: characters in RECEIVED, in SENDING, BEATS, a reason, the level, pieces, RUNS, sends, in a FRAME")
    private static void eachCount() {
        SerialPort x = rows(0);
        x.write(1, 2);
        x.frame(1, -1);
        x.frame(2, -1);
        x.write(0, 1);
        x.write(0, 2);
        x.write(0, 3);
        x.clock(170);
        // 10 BEATS in the second FRAME out and in; RUNS: 16 low, 16 high, 112 low, 16 high, 10 low.
        int[] counts = {1, 1, 170, 0, 0, 10, 5, 1, 1};
        for (int what = 0; what <= 8; what++) {
            due("count(" + what + ")", x.count(what), counts[what]);
        }
        x.clock(480);
        // Characters 1, 2, 3 have each brought four RUNS; EMPTY came up with the third.
        int[] later = {2, 0, 650, 1, 1, 0, 12, 0, 0};
        for (int what = 0; what <= 8; what++) {
            due("later: count(" + what + ")", x.count(what), later[what]);
        }
    }

    @Sentence("Promise 9: (Nothing is changed by that.)")
    private static void countingChangesNothing() {
        SerialPort x = port(27);
        x.write(1, 15);
        x.inputs(1);
        x.frame(1, 9);
        x.frame(2, 9);
        x.clock(352);
        for (int again = 0; again < 3; again++) {
            for (int what = -1; what <= 9; what++) {
                x.count(what);
            }
        }
        due("LINE: read(2)", x.read(2), 6);
        due("OVERRUN, PARITY: read(5)", x.read(5), 0x67);
        due("RECEIVED: read(2)", x.read(2), 4);
        due("read(0)", x.read(0), 2);
        due("EMPTY: read(2)", x.read(2), 2);
        due("MODEM: read(2)", x.read(2), 0);
        due("read(6)", x.read(6), 17);
    }

    @Sentence("Promise 9: 4: the level that goes out (of the latest BEAT; 1 at first)")
    private static void theLevelOfTheLatestBeat() {
        SerialPort x = new SerialPort();
        due("at first: count(4)", x.count(4), 1);
        x.write(3, 64);
        due("BREAK, but no BEAT: count(4)", x.count(4), 1);
        x.clock(100);
        due("DIVISOR 0, no BEAT: count(4)", x.count(4), 1);
        setDivisor(x, 2, EIGHT_BITS | 64);
        x.clock(1);
        due("no BEAT: count(4)", x.count(4), 1);
        x.clock(1);
        due("a BEAT: count(4)", x.count(4), 0);
        x.write(4, 16);
        due("LOOP, but no BEAT: count(4)", x.count(4), 0);
        x.clock(2);
        due("LOOP: count(4)", x.count(4), 1);
    }

    @Sentence("Promise 10: of the i-th from the latest on (of the latest 40)")
    private static void fortyRunsAreKept() {
        SerialPort x = port(EIGHT_BITS | 64);
        for (int i = 1; i <= 39; i++) {
            x.write(3, i % 2 == 1 ? 67 : 3);
            x.clock(i);
        }
        due("count(6)", x.count(6), 39);
        due("the first of 39: run(38, 1)", x.run(38, 1), 1);
        due("run(39, 1)", x.run(39, 1), -1);
        x.clock(1);
        due("the latest goes on: run(0, 1)", x.run(0, 1), 40);
        due("run(38, 1)", x.run(38, 1), 1);
    }

    @Sentence("Promise 10: (of the latest 40) (more have been)")
    private static void moreThanFortyRuns() {
        SerialPort x = port(EIGHT_BITS);
        for (int i = 1; i <= 100; i++) {
            x.write(3, i % 2 == 1 ? 67 : 3);
            x.clock(i);
            if (i == 40) {
                due("the 40th: run(39, 1)", x.run(39, 1), 1);
                due("run(40, 1)", x.run(40, 1), -1);
            }
            if (i == 41) {
                due("the 41st: run(39, 1)", x.run(39, 1), 2);
                due("run(40, 1)", x.run(40, 1), -1);
            }
        }
        due("all are counted: count(6)", x.count(6), 100);
        for (int i = 0; i <= 39; i++) {
            due("run(" + i + ", 0)", x.run(i, 0), 1 - i % 2);
            due("run(" + i + ", 1)", x.run(i, 1), 100 - i);
        }
        for (int i : new int[] {40, 41, 99, 100}) {
            due("run(" + i + ", 0)", x.run(i, 0), -1);
            due("run(" + i + ", 1)", x.run(i, 1), -1);
        }
    }

    @Sentence("Promise 10: NONE: there is none such, another what")
    private static void noSuchRun() {
        SerialPort x = port(EIGHT_BITS);
        due("no BEAT yet: run(0, 0)", x.run(0, 0), -1);
        due("no BEAT yet: run(0, 1)", x.run(0, 1), -1);
        x.clock(3);
        due("run(0, 0)", x.run(0, 0), 1);
        due("run(0, 1)", x.run(0, 1), 3);
        for (int i : new int[] {-1, 1, 39, 40, -40, 256, MIN, MAX}) {
            due("run(" + i + ", 0)", x.run(i, 0), -1);
            due("run(" + i + ", 1)", x.run(i, 1), -1);
        }
        for (int what : new int[] {-1, 2, 3, 256, MIN, MAX}) {
            due("run(0, " + what + ")", x.run(0, what), -1);
            due("run(1, " + what + ")", x.run(1, what), -1);
        }
    }
}
