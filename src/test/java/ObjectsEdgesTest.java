/** The term OBJECTS: each object's range, each kind, and each other sentence that names an edge. */
public final class ObjectsEdgesTest {
    private static final int TOO_GREAT = 0x06090031;
    private static final int TOO_SMALL = 0x06090032;
    private static final int WRONG_VALUE = 0x06090030;
    private static final int WRONG_STATE = 0x08000022;

    public static void main(String[] args) {
        ranges();
        notNegative();
        readOnly();
        kindR();
        kindW();
        kindB();
        kindS();
        kindM();
        entriesOfKindM();
        starts();
        modeTwo();
        sample();
        watchParts();
        writingWatch();
        writingBeat();
        writingType();
        Check.end();
    }

    private static void ranges() {
        range("1016:1 WATCH* [4, b, 0, 0 .. 8388607]", 0x1016, 1);
        range("1017:0 BEAT* [2, b, 0, 0 .. 65535]", 0x1017, 0);
        range("1800:2 TYPE* [1, b, 255, 0 .. 255]", 0x1800, 2);
        range("1800:3 INHIBIT* [2, b, 0, 0 .. 65535]", 0x1800, 3);
        range("1800:5 EVERY* [2, b, 0, 0 .. 65535]", 0x1800, 5);
        range("6040:0 CONTROL [2, b, 0, 0 .. 65535]", 0x6040, 0);
        range("6060:0 MODE* [1, b, 1, 1 .. 3; 2 is WRONG VALUE]", 0x6060, 0);
        range("6065:0 WINDOW* [4, s, 100000, 0 .. 100000]", 0x6065, 0);
        range("607A:0 TARGET [4, b, 0, -100000 .. 100000]", 0x607A, 0);
        range("607D:1 FLOOR* [4, s, -100000, -100000 .. 100000]", 0x607D, 1);
        range("607D:2 CEILING* [4, s, 100000, -100000 .. 100000]", 0x607D, 2);
        range("607F:0 TOP* [4, s, 1000, 1 .. 1000]", 0x607F, 0);
        range("6081:0 PROFILE* [4, b, 100, 1 .. 1000]", 0x6081, 0);
        range("6083:0 RATE* [4, s, 10, 1 .. 1000]", 0x6083, 0);
        range("6085:0 QUICK* [4, s, 50, 1 .. 1000]", 0x6085, 0);
        range("60FF:0 TARGET SPEED [4, b, 0, -1000 .. 1000]", 0x60FF, 0);
        count("1600:0 COUNT IN* [1, m, 1, 0 .. 3]", 0x1600, 0x60400010);
        count("1A00:0 COUNT OUT* [1, m, 1, 0 .. 3]", 0x1A00, 0x60410010);
        entries("1600:1*, 1600:2*, 1600:3* [4, m, any int; START 0x60400010, 0, 0]", 0x1600);
        entries("1A00:1*, 1A00:2*, 1A00:3* [4, m, any int; START 0x60410010, 0, 0]", 0x1A00);
    }

    private static void range(String words, int index, int sub) {
        Check.sentence(words);
        int[] o = Dictionary.row(index, sub);
        Bench bench = new Bench(5);
        Check.same("START", bench.value(index, sub), o[4]);
        writes(bench, o, o[5], 0);
        writes(bench, o, o[6], 0);
        long most = o[2] == 4 ? Dictionary.HIGH : (1L << 8 * o[2]) - 1;
        if (o[6] < most) {
            writes(bench, o, o[6] + 1, TOO_GREAT);
            writes(bench, o, (int) most, TOO_GREAT);
        }
        writes(bench, o, o[5], 0);
        if (o[2] == 4) {
            writes(bench, o, o[5] - 1, TOO_SMALL);
            writes(bench, o, Dictionary.LOW, TOO_SMALL);
        } else if (o[5] > 0) {
            writes(bench, o, o[5] - 1, TOO_SMALL);
        }
    }

    private static void writes(Bench bench, int[] o, int value, int code) {
        int before = bench.value(o[0], o[1]);
        Check.same("the code of " + value, bench.code(o[0], o[1], o[2], value), code);
        Check.same("the value after " + value, bench.value(o[0], o[1]), code == 0 ? value : before);
    }

    private static void count(String words, int index, int entry) {
        Check.sentence(words);
        Bench bench = new Bench(5);
        Check.same("START", bench.value(index, 0), 1);
        bench.set(index, 0, 1, 0);
        bench.set(index, 2, 4, entry);
        bench.set(index, 3, 4, entry);
        int[] o = Dictionary.row(index, 0);
        for (int value = 0; value <= 3; value++) {
            writes(bench, o, value, 0);
        }
        writes(bench, o, 4, TOO_GREAT);
        writes(bench, o, 255, TOO_GREAT);
    }

    private static void entries(String words, int index) {
        Check.sentence(words);
        Bench bench = new Bench(5);
        bench.set(index, 0, 1, 0);
        for (int sub = 1; sub <= 3; sub++) {
            int[] o = Dictionary.row(index, sub);
            Check.same("START", bench.value(index, sub), o[4]);
            writes(bench, o, Dictionary.LOW, 0);
            writes(bench, o, -1, 0);
            writes(bench, o, 0, 0);
            writes(bench, o, Dictionary.HIGH, 0);
        }
    }

    private static void notNegative() {
        Check.sentence("One or two bytes hold a number that is not negative, four an int.");
        Bench bench = new Bench(5);
        bench.set(0x1800, 2, 1, 0x80);
        Check.same("one byte", bench.value(0x1800, 2), 128);
        bench.set(0x1800, 3, 2, 0x8000);
        Check.same("two bytes", bench.value(0x1800, 3), 32768);
        bench.set(0x607A, 0, 4, -1);
        Check.same("four bytes", bench.value(0x607A, 0), -1);
        Check.same("a MODE of 255 is too great", bench.code(0x6060, 0, 1, 0xFF), TOO_GREAT);
        Check.same("a PROFILE of -1 is too small", bench.code(0x6081, 0, 4, -1), TOO_SMALL);
        bench.map(0x1600, 0x60400010, 0x607A0020);
        bench.operate();
        bench.in(6, 0xFFFFFFFE_8000L);
        Check.same("two bytes of IN", bench.value(0x6040, 0), 32768);
        Check.same("four bytes of IN", bench.value(0x607A, 0), -2);
    }

    private static void readOnly() {
        Check.sentence("1001:0 ERRORS [1, r]");
        Bench bench = Bench.inState(7);
        Check.same("its bytes", bench.ask(0x40, 0x1001, 0, 0), Bench.frame(0x4F, 0x1001, 0, 0x11));
        Check.sentence("6041:0 STATUS [2, r]");
        Check.same("its bytes", bench.ask(0x40, 0x6041, 0, 0), Bench.frame(0x4B, 0x6041, 0, 0x08));
        Check.sentence("606B:0 SPEED [4, r]");
        Bench back = new Bench(5);
        back.powerTo(4, 100);
        Check.same("its bytes", back.ask(0x40, 0x606B, 0, 0), Bench.frame(0x43, 0x606B, 0, -10));
    }

    private static void kindR() {
        Check.sentence("r is only read");
        for (int[] o : Dictionary.OBJECTS) {
            if (o[3] == Dictionary.R) {
                Bench bench = new Bench(5);
                Check.same("read " + Dictionary.name(o), bench.ask(0x40, o[0], o[1], 0) >>> 32, o[4]);
                Check.same("write " + Dictionary.name(o), bench.code(o[0], o[1], o[2], 1), 0x06010002);
                Check.same("it stays", bench.value(o[0], o[1]), o[4]);
            }
        }
    }

    private static void kindW() {
        Check.sentence("w only written");
        for (int index = 0x1010; index <= 0x1011; index++) {
            Bench bench = new Bench(5);
            int sign = index == 0x1010 ? 0x65766173 : 0x64616F6C;
            Check.same("write", bench.code(index, 1, 4, sign), 0);
            Check.same("read", bench.ask(0x40, index, 1, 0), Bench.frame(0x80, index, 1, 0x06010001));
            Check.same("object", bench.value(index, 1), 0);
        }
    }

    private static void kindB() {
        Check.sentence("b both");
        for (int state = 1; state <= 7; state++) {
            for (int network : new int[] {128, 1}) {
                Bench bench = Bench.inState(state);
                bench.servo.receive(0, 2, network);
                for (int[] o : Dictionary.OBJECTS) {
                    if (o[3] == Dictionary.B) {
                        Check.same("write " + Dictionary.name(o), bench.code(o[0], o[1], o[2], 3), 0);
                        Check.same("read " + Dictionary.name(o), bench.ask(0x40, o[0], o[1], 0) >>> 32, 3);
                    }
                }
            }
        }
    }

    private static void kindS() {
        Check.sentence("s both, but written only while the STAGE is off");
        for (int state = 1; state <= 7; state++) {
            Bench bench = Bench.inState(state);
            boolean stageOn = state >= 4 && state <= 6;
            for (int[] o : Dictionary.OBJECTS) {
                if (o[3] == Dictionary.S) {
                    String what = Dictionary.name(o) + " in " + state;
                    Check.same("write " + what, bench.code(o[0], o[1], 4, 8), stageOn ? WRONG_STATE : 0);
                    Check.same("read " + what, (int) (bench.ask(0x40, o[0], o[1], 0) >>> 32), stageOn ? o[4] : 8);
                }
            }
        }
    }

    private static void kindM() {
        Check.sentence("m both, but written only in the network state PREPARING");
        for (int index : new int[] {0x1600, 0x1A00}) {
            Bench bench = new Bench(5);
            bench.operate();
            Check.same("COUNT in OPERATING", bench.code(index, 0, 1, 0), WRONG_STATE);
            Check.same("COUNT stays", bench.value(index, 0), 1);
            Check.same("but it is read", bench.ask(0x40, index, 0, 0), Bench.frame(0x4F, index, 0, 1));
            bench.prepare();
            Check.same("COUNT in PREPARING", bench.code(index, 0, 1, 0), 0);
            bench.operate();
            for (int sub = 1; sub <= 3; sub++) {
                Check.same("entry in OPERATING", bench.code(index, sub, 4, 7), WRONG_STATE);
            }
            bench.prepare();
            for (int sub = 1; sub <= 3; sub++) {
                Check.same("entry in PREPARING", bench.code(index, sub, 4, 7), 0);
                Check.same("and read", bench.ask(0x40, index, sub, 0), Bench.frame(0x43, index, sub, 7));
            }
            for (int state = 2; state <= 7; state++) {
                Check.same("in each power state", Bench.inState(state).code(index, 0, 1, 0), 0);
            }
        }
    }

    private static void entriesOfKindM() {
        Check.sentence("and subs 1 to 3 of that kind only while sub 0 of the same index is 0");
        for (int index : new int[] {0x1600, 0x1A00}) {
            int other = 0x1600 + 0x1A00 - index;
            Bench bench = new Bench(5);
            for (int sub = 1; sub <= 3; sub++) {
                int before = bench.value(index, sub);
                Check.same("sub 0 is 1", bench.code(index, sub, 4, 9), WRONG_STATE);
                Check.same("it stays", bench.value(index, sub), before);
            }
            Check.same("sub 0 itself is written", bench.code(index, 0, 1, 1), 0);
            bench.set(index, 0, 1, 0);
            for (int sub = 1; sub <= 3; sub++) {
                Check.same("sub 0 is 0", bench.code(index, sub, 4, 9), 0);
                Check.same("sub 0 of the other index is 1", bench.code(other, sub, 4, 9), WRONG_STATE);
            }
        }
    }

    private static void starts() {
        Check.sentence("OBJECTS are named index:sub, in hexadecimal digits, below with [bytes, kind, START, least .. greatest].");
        Bench bench = new Bench(5);
        for (int[] o : Dictionary.OBJECTS) {
            Check.same("START of " + Dictionary.name(o), bench.value(o[0], o[1]), o[4]);
        }
    }

    private static void modeTwo() {
        Check.sentence("2 is WRONG VALUE");
        Bench bench = new Bench(5);
        Check.same("MODE 2", bench.code(0x6060, 0, 1, 2), WRONG_VALUE);
        Check.same("MODE stays", bench.value(0x6060, 0), 1);
        Check.same("MODE 3", bench.code(0x6060, 0, 1, 3), 0);
        Check.same("MODE 2", bench.code(0x6060, 0, 1, 2), WRONG_VALUE);
        Check.same("MODE stays", bench.value(0x6060, 0), 3);
        Check.same("a TYPE of 2 is none", bench.code(0x1800, 2, 1, 2), 0);
    }

    private static void sample() {
        Check.sentence("6064:0 SAMPLE [4, r]: the latest sample, 0 at first");
        Bench bench = new Bench(5);
        Check.same("at first", bench.value(0x6064, 0), 0);
        for (int sample : new int[] {-1000000, 1000000, -1, 12}) {
            bench.servo.tick(sample);
            Check.same("the latest one", bench.value(0x6064, 0), sample);
        }
        bench.servo.tick(1000001);
        Check.same("a refused one is none", bench.value(0x6064, 0), 12);
        bench.servo.restart();
        Check.same("the latest one is older than the power", bench.value(0x6064, 0), 12);
    }

    private static void watchParts() {
        Check.sentence("a time (its low 16 bits) and a node (the bits above)");
        Bench bench = new Bench(5);
        bench.set(0x1016, 1, 4, 0x7F0001);
        Check.same("node 127", bench.servo.receive(0x77F, 1, 5), 5);
        bench.servo.run(1);
        Check.same("time 1", bench.servo.power(), 7);
        Bench longest = new Bench(5);
        longest.set(0x1016, 1, 4, 0x01FFFF);
        Check.same("node 1", longest.servo.receive(0x701, 1, 5), 5);
        longest.servo.run(100);
        Check.same("time 65535", longest.servo.power(), 1);
        Bench wide = new Bench(5);
        wide.set(0x1016, 1, 4, 0x010100);
        wide.servo.receive(0x701, 1, 5);
        wide.servo.run(100);
        wide.servo.run(100);
        wide.servo.run(55);
        Check.same("time 256: 255 ticks", wide.servo.power(), 1);
        wide.servo.run(1);
        Check.same("time 256: 256 ticks", wide.servo.power(), 7);
    }

    private static void writingWatch() {
        Check.sentence("Writing WATCH disarms the watch");
        Bench bench = new Bench(5);
        bench.watch(3);
        bench.set(0x1016, 1, 4, 9 << 16 | 3);
        bench.servo.run(9);
        Check.same("even with the same value", bench.servo.power(), 1);
        bench.servo.receive(0x709, 1, 5);
        Check.same("a refused write", bench.code(0x1016, 1, 4, 8388608), TOO_GREAT);
        bench.servo.run(3);
        Check.same("does not disarm", bench.servo.power(), 7);
        for (int[] o : Dictionary.OBJECTS) {
            Bench others = new Bench(5);
            others.watch(3);
            if (writeAnother(others, o, 0x1016)) {
                others.servo.run(3);
                Check.same("nor does " + Dictionary.name(o), others.servo.power(), 7);
            }
        }
    }

    /** Writes some value that is right to an object of another index; false if it is never written or is this index. */
    private static boolean writeAnother(Bench bench, int[] o, int index) {
        boolean entry = o[3] == Dictionary.M && o[1] != 0;
        if (o[0] == index || o[3] == Dictionary.R || entry) {
            return false;
        }
        int sign = o[0] == 0x1010 ? 0x65766173 : 0x64616F6C;
        bench.set(o[0], o[1], o[2], o[3] == Dictionary.W ? sign : 1);
        return true;
    }

    private static void writingBeat() {
        Check.sentence("writing BEAT makes the count of ticks for it 0");
        Bench bench = new Bench(5);
        bench.servo.run(50);
        bench.set(0x1017, 0, 2, 4);
        bench.servo.run(3);
        bench.expectNothing("the ticks before are forgotten");
        bench.set(0x1017, 0, 2, 4);
        bench.servo.run(3);
        bench.expectNothing("even with the same value");
        Check.same("a refused write", bench.code(0x1017, 0, 4, 4), 0x06070010);
        bench.servo.run(1);
        bench.expect("leaves the count", 0x705, 1, 127);
        for (int[] o : Dictionary.OBJECTS) {
            Bench others = new Bench(5);
            others.set(0x1017, 0, 2, 4);
            others.servo.run(3);
            if (writeAnother(others, o, 0x1017)) {
                others.servo.run(1);
                others.expect("so does " + Dictionary.name(o), 0x705, 1, 127);
            }
        }
    }

    private static void writingType() {
        Check.sentence("writing TYPE the count of SYNC frames 0");
        Bench bench = new Bench(5);
        bench.set(0x1800, 2, 1, 3);
        bench.operate();
        bench.drain();
        bench.sync();
        bench.sync();
        bench.set(0x1800, 2, 1, 3);
        bench.sync();
        bench.sync();
        bench.expectNothing("even with the same value");
        Check.same("a refused write", bench.code(0x1800, 2, 2, 3), 0x06070010);
        bench.sync();
        bench.expect("leaves the count", 0x185, 2, 0x240);
        for (int[] o : Dictionary.OBJECTS) {
            Bench others = new Bench(5);
            others.set(0x1800, 2, 1, 2);
            others.operate();
            others.sync();
            others.prepare();
            boolean type = o[0] == 0x1800 && o[1] == 2;
            if (!type && writeAnother(others, o, 0)) {
                others.operate();
                others.sync();
                others.expect("so does " + Dictionary.name(o), 0x185, 2, 0x240);
            }
        }
        bench.sync();
        bench.sync();
        bench.set(0x1800, 2, 1, 2);
        bench.sync();
        bench.expectNothing("a lesser TYPE than the count was");
        bench.sync();
        bench.expect("2 after the write", 0x185, 2, 0x240);
    }
}
