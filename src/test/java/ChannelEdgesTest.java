/** The term THE CHANNEL: each sentence of it that names an edge, with a test of its own. */
public final class ChannelEdgesTest {
    private static final int WRONG_COMMAND = 0x05040001;
    private static final int NO_INDEX = 0x06020000;
    private static final int NO_SUB = 0x06090011;
    private static final int NOT_READ = 0x06010001;
    private static final int NOT_WRITTEN = 0x06010002;
    private static final int WRONG_SIZE = 0x06070010;
    private static final int WRONG_STATE = 0x08000022;
    private static final int WRONG_SIGN = 0x08000020;
    private static final int TOO_GREAT = 0x06090031;
    private static final int TOO_SMALL = 0x06090032;
    private static final int WRONG_VALUE = 0x06090030;
    private static final int NOT_MAPPED = 0x06040041;
    private static final int TOO_LONG = 0x06040042;

    private static final int SAVE_SIGN = 0x65766173;
    private static final int RESTORE_SIGN = 0x64616F6C;

    private static final int IN = 0x1600;
    private static final int OUT = 0x1A00;
    private static final int CONTROL = 0x60400010;
    private static final int MODE = 0x60600008;
    private static final int TARGET = 0x607A0020;
    private static final int PROFILE = 0x60810020;

    public static void main(String[] args) {
        lengthEight();
        unusedBytes();
        commandThatSendsNothing();
        oneFrameWithTheSameBytes();
        readsOfEachSize();
        writesOfEachSize();
        nothingChanges();
        otherCommands();
        noIndex();
        noSub();
        readingKindW();
        writingKindR();
        numberOfBytes();
        wrongState();
        signs();
        saveUnderWay();
        moreOrLess();
        wrongValue();
        firstThatHolds();
        countEntryForm();
        countEntryIndex();
        countInKind();
        countOutKind();
        countBytes();
        countInTheirOrder();
        countLooksAtNoMore();
        Check.end();
    }

    private static void lengthEight() {
        Check.sentence("Frames 0x600 + N of length 8: byte 0 a command, bytes 1, 2 an index, byte 3 a sub, bytes 4 .. 7 a value");
        Bench bench = new Bench(5);
        bench.drain();
        for (int length = 0; length < 8; length++) {
            Check.same("length " + length, bench.servo.receive(0x605, length, Bench.frame(0x23, 0x6081, 0, 5)), 0);
        }
        Check.same("not written", bench.value(0x6081, 0), 100);
        bench.expectNothing("not answered");
        Check.same("length 8", bench.servo.receive(0x605, 8, Bench.frame(0x23, 0x6081, 0, 5)), 4);
        Check.same("written", bench.value(0x6081, 0), 5);
    }

    private static void unusedBytes() {
        Check.sentence("(bytes that the command does not use do not matter)");
        Bench bench = new Bench(5);
        Check.same("a read", bench.ask(0x40, 0x1800, 2, -1), Bench.frame(0x4F, 0x1800, 2, 255));
        Check.same("a write of 1 byte", bench.code(0x6060, 0, 1, 0xFFFFFF03), 0);
        Check.same("MODE", bench.value(0x6060, 0), 3);
        Check.same("a write of 2 bytes", bench.code(0x1017, 0, 2, 0x80010007), 0);
        Check.same("BEAT", bench.value(0x1017, 0), 7);
        Check.same("command 0x80", bench.servo.receive(0x605, 8, 0x123456789ABCDE80L), 4);
    }

    private static void commandThatSendsNothing() {
        Check.sentence("Command 0x80: nothing is sent.");
        Bench bench = new Bench(5);
        bench.drain();
        bench.send(0x80, 0x6081, 0, 5);
        bench.send(0x80, 0x7777, 7, 5);
        bench.expectNothing("not answered");
        Check.same("nor lost", bench.servo.lost(), 0);
        Check.same("nor written", bench.value(0x6081, 0), 100);
    }

    private static void oneFrameWithTheSameBytes() {
        Check.sentence("Otherwise one frame 0x580 + N of length 8 is sent, whose bytes 1 .. 3 are those of the frame.");
        for (int node : new int[] {1, 127}) {
            Bench bench = new Bench(node);
            bench.drain();
            long[] frames = {
                Bench.frame(0x40, 0x6041, 0, 0), Bench.frame(0x23, 0x6081, 0, 5), Bench.frame(0x23, 0x6081, 0, 0),
                Bench.frame(0x00, 0xFFFF, 255, 0), Bench.frame(0xFF, 0, 0, 0), Bench.frame(0x40, 0x6081, 255, 0),
            };
            for (long frame : frames) {
                bench.servo.receive(0x600 + node, 8, frame);
                Check.same("one frame", bench.servo.waiting(), 1);
                Check.same("identifier", bench.servo.nextIdentifier(), 0x580 + node);
                Check.same("length", bench.servo.nextLength(), 8);
                Check.same("bytes 1 .. 3", bench.servo.nextData() & 0xFFFFFF00L, frame & 0xFFFFFF00L);
                bench.servo.take();
            }
        }
    }

    private static void readsOfEachSize() {
        Check.sentence("byte 0 is 0x4F, 0x4B, 0x43 for an object of 1, 2, 4 bytes, these are bytes 4 on (then 0)");
        Bench bench = new Bench(5);
        Check.same("1 byte", bench.ask(0x40, 0x1800, 2, -1), 0x000000FF_02_1800_4FL);
        bench.set(0x1800, 3, 2, 65535);
        Check.same("2 bytes", bench.ask(0x40, 0x1800, 3, -1), 0x0000FFFF_03_1800_4BL);
        bench.set(0x607A, 0, 4, -2);
        Check.same("4 bytes", bench.ask(0x40, 0x607A, 0, -1), 0xFFFFFFFE_00_607A_43L);
    }

    private static void writesOfEachSize() {
        Check.sentence("0x2F, 0x2B, 0x27, 0x23 write a value of 1, 2, 3, 4 bytes: byte 0 is 0x60, bytes 4 .. 7 are 0.");
        Bench bench = new Bench(5);
        Check.same("1 byte", bench.ask(0x2F, 0x1800, 2, 254), 0x02_1800_60L);
        Check.same("TYPE", bench.value(0x1800, 2), 254);
        Check.same("2 bytes", bench.ask(0x2B, 0x1800, 3, 65535), 0x03_1800_60L);
        Check.same("INHIBIT", bench.value(0x1800, 3), 65535);
        Check.same("4 bytes", bench.ask(0x23, 0x607A, 0, -100000), 0x00_607A_60L);
        Check.same("TARGET", bench.value(0x607A, 0), -100000);
        for (int[] o : Dictionary.OBJECTS) {
            if (o[3] != Dictionary.R) {
                Check.same("3 bytes fit no object", bench.code(o[0], o[1], 3, 1), WRONG_SIZE);
            }
        }
    }

    private static void nothingChanges() {
        Check.sentence("If it can't be done, nothing changes, byte 0 is 0x80 and bytes 4 .. 7 are a code");
        Bench bench = new Bench(5);
        bench.operate();
        int[][] frames = {
            {0x2F, 0x1600, 0, 0}, {0x23, 0x1600, 1, 5}, {0x23, 0x6081, 0, 0}, {0x23, 0x6081, 0, 1001},
            {0x2F, 0x6060, 0, 2}, {0x23, 0x6040, 0, 6}, {0x2B, 0x6041, 0, 6}, {0x23, 0x1010, 1, 1}, {0x22, 0x6081, 0, 5},
        };
        for (int[] f : frames) {
            long answer = bench.ask(f[0], f[1], f[2], f[3]);
            Check.same("byte 0", answer & 0xFF, 0x80);
            Check.holds("a code", answer >>> 32 != 0);
        }
        for (int[] o : Dictionary.OBJECTS) {
            int due = o[0] == 0x6041 ? 0x240 : o[4];
            Check.same(Dictionary.name(o), bench.value(o[0], o[1]), due);
        }
        bench.servo.run(3);
        Check.same("no save began", bench.servo.word(0, 1) | bench.servo.word(0, 2) | bench.servo.word(0, 3), 0);
        Check.same("OPERATING", bench.servo.network(), 5);
        Check.same("DISABLED", bench.servo.power(), 1);
    }

    private static void otherCommands() {
        Check.sentence("another command: 0x05040001");
        for (int command = 0; command < 256; command++) {
            boolean known = command == 0x40 || command == 0x80 || command == 0x2F || command == 0x2B
                    || command == 0x27 || command == 0x23;
            if (!known) {
                Bench bench = new Bench(5);
                long due = Bench.frame(0x80, 0x6081, 0, WRONG_COMMAND);
                Check.same("command " + command, bench.ask(command, 0x6081, 0, 5), due);
                Check.same("not written", bench.value(0x6081, 0), 100);
            }
        }
    }

    private static void noIndex() {
        Check.sentence("No object has that index: 0x06020000.");
        for (int index : new int[] {0, 0x1000, 0x1002, 0x1015, 0x1018, 0x15FF, 0x1601, 0x6000, 0x603F, 0x6082, 0xFFFF}) {
            Bench bench = new Bench(5);
            for (int sub : new int[] {0, 1, 255}) {
                long due = Bench.frame(0x80, index, sub, NO_INDEX);
                Check.same("read " + index, bench.ask(0x40, index, sub, 0), due);
                Check.same("write " + index, bench.ask(0x23, index, sub, 0), due);
            }
        }
    }

    private static void noSub() {
        Check.sentence("None has that index and sub: 0x06090011.");
        int[][] places = {
            {0x1001, 1}, {0x1010, 0}, {0x1010, 2}, {0x1011, 0}, {0x1016, 0}, {0x1017, 1}, {0x1600, 4}, {0x1800, 0},
            {0x1800, 1}, {0x1800, 4}, {0x1800, 6}, {0x1A00, 4}, {0x1A00, 255}, {0x6040, 1}, {0x607D, 0}, {0x607D, 3},
        };
        Bench bench = new Bench(5);
        for (int[] p : places) {
            long due = Bench.frame(0x80, p[0], p[1], NO_SUB);
            Check.same("read " + Dictionary.name(p), bench.ask(0x40, p[0], p[1], 0), due);
            Check.same("write " + Dictionary.name(p), bench.ask(0x2F, p[0], p[1], 0), due);
        }
    }

    private static void readingKindW() {
        Check.sentence("Reading kind w: 0x06010001.");
        Bench bench = new Bench(5);
        Check.same("SAVE", bench.ask(0x40, 0x1010, 1, SAVE_SIGN), Bench.frame(0x80, 0x1010, 1, NOT_READ));
        Check.same("RESTORE", bench.ask(0x40, 0x1011, 1, RESTORE_SIGN), Bench.frame(0x80, 0x1011, 1, NOT_READ));
        bench.servo.run(5);
        Check.same("no save began", bench.servo.word(0, 3), 0);
    }

    private static void writingKindR() {
        Check.sentence("Writing kind r: 0x06010002.");
        Bench bench = new Bench(5);
        for (int[] o : Dictionary.OBJECTS) {
            for (int bytes = 1; o[3] == Dictionary.R && bytes <= 4; bytes++) {
                Check.same("write " + Dictionary.name(o), bench.code(o[0], o[1], bytes, 0), NOT_WRITTEN);
            }
        }
    }

    private static void numberOfBytes() {
        Check.sentence("Not the object's number of bytes: 0x06070010.");
        for (int[] o : Dictionary.OBJECTS) {
            for (int bytes = 1; o[3] != Dictionary.R && bytes <= 4; bytes++) {
                if (bytes != o[2]) {
                    Bench bench = new Bench(5);
                    String what = bytes + " bytes to " + Dictionary.name(o);
                    Check.same(what, bench.code(o[0], o[1], bytes, 1), WRONG_SIZE);
                    Check.same(what, bench.value(o[0], o[1]), o[4]);
                }
            }
        }
    }

    private static void wrongState() {
        Check.sentence("Kind s or m when it isn't written: WRONG STATE 0x08000022.");
        Bench on = Bench.inState(4);
        Check.same("kind s", on.code(0x6083, 0, 4, 7), WRONG_STATE);
        Bench bench = new Bench(5);
        Check.same("kind m, COUNT is 1", bench.code(IN, 1, 4, 7), WRONG_STATE);
        bench.operate();
        Check.same("kind m in OPERATING", bench.code(OUT, 0, 1, 0), WRONG_STATE);
    }

    private static void signs() {
        Check.sentence("SAVE with a value other than 0x65766173, RESTORE with one other than 0x64616F6C: 0x08000020");
        Bench bench = new Bench(5);
        for (int value : new int[] {0, -1, SAVE_SIGN - 1, SAVE_SIGN + 1, RESTORE_SIGN, 0x73617665}) {
            Check.same("SAVE " + value, bench.code(0x1010, 1, 4, value), WRONG_SIGN);
        }
        for (int value : new int[] {0, -1, RESTORE_SIGN - 1, RESTORE_SIGN + 1, SAVE_SIGN, 0x6C6F6164}) {
            Check.same("RESTORE " + value, bench.code(0x1011, 1, 4, value), WRONG_SIGN);
        }
        bench.servo.run(30);
        Check.same("no save began", bench.servo.word(0, 0), 0);
        Check.same("SAVE", bench.code(0x1010, 1, 4, SAVE_SIGN), 0);
        bench.servo.run(23);
        Check.same("RESTORE", bench.code(0x1011, 1, 4, RESTORE_SIGN), 0);
    }

    private static void saveUnderWay() {
        Check.sentence("either while a save is under way: WRONG STATE");
        for (int first = 0x1010; first <= 0x1011; first++) {
            Bench bench = new Bench(5);
            bench.set(first, 1, 4, first == 0x1010 ? SAVE_SIGN : RESTORE_SIGN);
            for (int ticks = 0; ticks < 23; ticks++) {
                Check.same("SAVE after " + ticks, bench.code(0x1010, 1, 4, SAVE_SIGN), WRONG_STATE);
                Check.same("RESTORE after " + ticks, bench.code(0x1011, 1, 4, RESTORE_SIGN), WRONG_STATE);
                bench.servo.run(1);
            }
            Check.same("after 23 it is over", bench.code(0x1010, 1, 4, SAVE_SIGN), 0);
            bench.servo.restart();
            Check.same("nor is one that was given up", bench.code(0x1011, 1, 4, RESTORE_SIGN), 0);
        }
    }

    private static void moreOrLess() {
        Check.sentence("More than the greatest: 0x06090031, less than the least: 0x06090032");
        Bench bench = new Bench(5);
        Check.same("the greatest", bench.code(0x60FF, 0, 4, 1000), 0);
        Check.same("more", bench.code(0x60FF, 0, 4, 1001), TOO_GREAT);
        Check.same("the least", bench.code(0x60FF, 0, 4, -1000), 0);
        Check.same("less", bench.code(0x60FF, 0, 4, -1001), TOO_SMALL);
        Check.same("it stays", bench.value(0x60FF, 0), -1000);
        Check.same("the greatest int", bench.code(0x60FF, 0, 4, Integer.MAX_VALUE), TOO_GREAT);
        Check.same("the least int", bench.code(0x60FF, 0, 4, Integer.MIN_VALUE), TOO_SMALL);
    }

    private static void wrongValue() {
        Check.sentence("WRONG VALUE 0x06090030");
        Bench bench = new Bench(5);
        Check.same("MODE 2", bench.code(0x6060, 0, 1, 2), WRONG_VALUE);
        Check.same("MODE 1", bench.code(0x6060, 0, 1, 1), 0);
        Check.same("MODE 3", bench.code(0x6060, 0, 1, 3), 0);
        Check.same("MODE 0", bench.code(0x6060, 0, 1, 0), TOO_SMALL);
        Check.same("MODE 4", bench.code(0x6060, 0, 1, 4), TOO_GREAT);
    }

    /** Frames to which two codes and more would fit. */
    private static void firstThatHolds() {
        Check.sentence("the first of these that holds");
        Bench bench = new Bench(5);
        Check.same("command, index", bench.ask(0x41, 0x7777, 0, 0), Bench.frame(0x80, 0x7777, 0, WRONG_COMMAND));
        Check.same("command, sub", bench.ask(0x24, 0x6081, 9, 0), Bench.frame(0x80, 0x6081, 9, WRONG_COMMAND));
        Check.same("command, value", bench.ask(0x20, 0x6081, 0, 0), Bench.frame(0x80, 0x6081, 0, WRONG_COMMAND));
        Check.same("index, sub", bench.ask(0x40, 0x1012, 9, 0), Bench.frame(0x80, 0x1012, 9, NO_INDEX));
        Check.same("sub, kind w", bench.ask(0x40, 0x1010, 0, 0), Bench.frame(0x80, 0x1010, 0, NO_SUB));
        Check.same("sub, kind r", bench.ask(0x2B, 0x6041, 1, 0), Bench.frame(0x80, 0x6041, 1, NO_SUB));
        Check.same("kind r, bytes", bench.code(0x6041, 0, 4, -1), NOT_WRITTEN);
        Check.same("bytes, state", bench.code(IN, 1, 2, 5), WRONG_SIZE);
        Check.same("bytes, sign", bench.code(0x1010, 1, 2, 5), WRONG_SIZE);
        Check.same("bytes, greatest", bench.code(0x6060, 0, 2, 4), WRONG_SIZE);
        Check.same("greatest, entries", bench.code(IN, 0, 1, 4), TOO_GREAT);
        bench.set(0x1010, 1, 4, SAVE_SIGN);
        Check.same("bytes, save under way", bench.code(0x1010, 1, 1, 5), WRONG_SIZE);
        Check.same("sign, save under way", bench.code(0x1010, 1, 4, 5), WRONG_SIGN);
        Check.same("sign, save under way", bench.code(0x1011, 1, 4, 5), WRONG_SIGN);
        bench.operate();
        Check.same("state, greatest", bench.code(IN, 0, 1, 4), WRONG_STATE);
        Check.same("state, entries", bench.code(IN, 0, 1, 2), WRONG_STATE);
        Bench on = Bench.inState(4);
        Check.same("bytes, stage", on.code(0x6083, 0, 2, 0), WRONG_SIZE);
        Check.same("stage, greatest", on.code(0x6083, 0, 4, 1001), WRONG_STATE);
        Check.same("stage, least", on.code(0x6083, 0, 4, 0), WRONG_STATE);
    }

    /** The code of writing a COUNT of k with these entries. */
    private static int count(Bench bench, int index, int k, int... entries) {
        bench.set(index, 0, 1, 0);
        for (int n = 0; n < entries.length; n++) {
            bench.set(index, n + 1, 4, entries[n]);
        }
        int code = bench.code(index, 0, 1, k);
        Check.same("COUNT", bench.value(index, 0), code == 0 ? k : 0);
        return code;
    }

    private static void countEntryForm() {
        Check.sentence("an entry must be index * 65536 + sub * 256 + 8 * bytes of an object");
        for (int[] o : Dictionary.OBJECTS) {
            int entry = Dictionary.entry(o);
            if (o[0] >= 0x6000) {
                Bench bench = new Bench(5);
                Check.same("the entry of " + Dictionary.name(o), count(bench, OUT, 1, entry), 0);
                Check.same("8 bits more", count(bench, OUT, 1, entry + 8), NOT_MAPPED);
                Check.same("1 bit more", count(bench, OUT, 1, entry + 1), NOT_MAPPED);
                Check.same("1 bit less", count(bench, OUT, 1, entry - 1), NOT_MAPPED);
            }
        }
        Bench more = new Bench(5);
        int[] wrong = {0, -1, Integer.MIN_VALUE, Integer.MAX_VALUE, 0x60400000, 0x60400110, 0x607D0020, 0x607D0320,
            0x60420010, 0xE0400010, 0x60010008};
        for (int entry : wrong) {
            Check.same("IN " + Integer.toHexString(entry), count(more, IN, 1, entry), NOT_MAPPED);
            Check.same("OUT " + Integer.toHexString(entry), count(more, OUT, 1, entry), NOT_MAPPED);
        }
    }

    private static void countEntryIndex() {
        Check.sentence("with an index from 0x6000 on");
        for (int[] o : Dictionary.OBJECTS) {
            if (o[0] < 0x6000) {
                Bench bench = new Bench(5);
                String what = Dictionary.name(o);
                Check.same("IN " + what, count(bench, IN, 1, Dictionary.entry(o)), NOT_MAPPED);
                Check.same("OUT " + what, count(bench, OUT, 1, Dictionary.entry(o)), NOT_MAPPED);
            }
        }
    }

    private static void countInKind() {
        Check.sentence("COUNT IN: of kind b");
        for (int[] o : Dictionary.OBJECTS) {
            if (o[0] >= 0x6000) {
                int due = o[3] == Dictionary.B ? 0 : NOT_MAPPED;
                Check.same(Dictionary.name(o), count(new Bench(5), IN, 1, Dictionary.entry(o)), due);
            }
        }
    }

    private static void countOutKind() {
        Check.sentence("COUNT OUT: of kind r, b or s");
        boolean[] seen = new boolean[128];
        for (int[] o : Dictionary.OBJECTS) {
            if (o[0] >= 0x6000) {
                seen[o[3]] = true;
                Check.same(Dictionary.name(o), count(new Bench(5), OUT, 1, Dictionary.entry(o)), 0);
            }
        }
        Check.holds("all three kinds", seen[Dictionary.R] && seen[Dictionary.B] && seen[Dictionary.S]);
    }

    private static void countBytes() {
        Check.sentence("with it the entries so far must have no more than 8 bytes together, or 0x06040042");
        for (int index : new int[] {IN, OUT}) {
            Bench bench = new Bench(5);
            Check.same("4 + 4", count(bench, index, 2, TARGET, PROFILE), 0);
            Check.same("2 + 2 + 4", count(bench, index, 3, CONTROL, CONTROL, TARGET), 0);
            Check.same("4 + 1 + 2", count(bench, index, 3, TARGET, MODE, CONTROL), 0);
            Check.same("4 + 4 + 1", count(bench, index, 3, TARGET, PROFILE, MODE), TOO_LONG);
            Check.same("1 + 4 + 4", count(bench, index, 3, MODE, TARGET, PROFILE), TOO_LONG);
            Check.same("4 + 4 + 4", count(bench, index, 3, TARGET, TARGET, TARGET), TOO_LONG);
        }
    }

    private static void countInTheirOrder() {
        Check.sentence("A COUNT k: the entries 1 .. k are looked at in their order");
        Bench bench = new Bench(5);
        Check.same("no entry in third place", count(bench, IN, 3, TARGET, PROFILE, 5), NOT_MAPPED);
        Check.same("kind r in third place", count(bench, IN, 3, TARGET, PROFILE, 0x60640020), NOT_MAPPED);
        Check.same("no entry in second place", count(bench, IN, 3, TARGET, 5, PROFILE), NOT_MAPPED);
        Check.same("no entry in first place", count(bench, IN, 3, 5, TARGET, PROFILE), NOT_MAPPED);
        Check.same("too long in third place", count(bench, IN, 3, TARGET, PROFILE, CONTROL), TOO_LONG);
    }

    private static void countLooksAtNoMore() {
        Check.sentence("the entries 1 .. k are looked at");
        Bench bench = new Bench(5);
        Check.same("none of them", count(bench, IN, 0, 5, 5, 5), 0);
        Check.same("the first", count(bench, IN, 1, TARGET, 5, 5), 0);
        Check.same("the first two", count(bench, IN, 2, TARGET, PROFILE, 5), 0);
        Check.same("the first two, though three are too long", count(bench, IN, 2, TARGET, PROFILE, TARGET), 0);
        Check.same("the third too", bench.code(IN, 0, 1, 3), TOO_LONG);
        Check.same("COUNT stays", bench.value(IN, 0), 2);
        Check.same("from 2 to 1", bench.code(IN, 0, 1, 1), 0);
    }
}
