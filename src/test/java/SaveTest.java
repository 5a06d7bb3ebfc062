/** Promise 18 (word), and saving and loading as promises 2, 3 and 6 need it. */
public final class SaveTest {
    private static final int SAVE_SIGN = 0x65766173;
    private static final int RESTORE_SIGN = 0x64616F6C;

    /** index, sub, bytes, START and another value, in the order of the words 1 to 21. */
    private static final int[][] KEPT = {
        {0x1016, 1, 4, 0, 0x70007}, {0x1017, 0, 2, 0, 60000}, {0x1600, 0, 1, 1, 2},
        {0x1600, 1, 4, 0x60400010, 0x60600008}, {0x1600, 2, 4, 0, 0x60810020}, {0x1600, 3, 4, 0, -3},
        {0x1800, 2, 1, 255, 254}, {0x1800, 3, 2, 0, 11}, {0x1800, 5, 2, 0, 12}, {0x1A00, 0, 1, 1, 2},
        {0x1A00, 1, 4, 0x60410010, 0x60640020}, {0x1A00, 2, 4, 0, 0x606B0020}, {0x1A00, 3, 4, 0, 6},
        {0x6060, 0, 1, 1, 3}, {0x6065, 0, 4, 100000, 13}, {0x607D, 1, 4, -100000, -14},
        {0x607D, 2, 4, 100000, 15}, {0x607F, 0, 4, 1000, 16}, {0x6081, 0, 4, 100, 17}, {0x6083, 0, 4, 10, 18},
        {0x6085, 0, 4, 50, 19},
    };

    public static void main(String[] args) {
        wordByWord();
        allKept();
        noWords();
        snapshot();
        restore();
        givenUp();
        banksInTurn();
        notKept();
        Check.end();
    }

    /** Gives each KEPT object its other value; the COUNTs are written last, as their entries need. */
    private static void change(Bench bench) {
        bench.set(0x1600, 0, 1, 0);
        bench.set(0x1A00, 0, 1, 0);
        for (int[] k : KEPT) {
            if (k[1] != 0 || k[0] != 0x1600 && k[0] != 0x1A00) {
                bench.set(k[0], k[1], k[2], k[4]);
            }
        }
        bench.set(0x1600, 0, 1, 2);
        bench.set(0x1A00, 0, 1, 2);
    }

    private static void save(Bench bench) {
        bench.set(0x1010, 1, 4, SAVE_SIGN);
    }

    private static void wordByWord() {
        Bench bench = new Bench(5);
        change(bench);
        save(bench);
        Check.same("nothing before a tick", bench.servo.word(0, 1), 0);
        bench.servo.run(1);
        Check.same("the first tick writes the serial 0", bench.servo.word(0, 1), 0);
        for (int word = 1; word <= 21; word++) {
            int before = bench.servo.word(0, word);
            bench.servo.tick(word);
            Check.same("before " + word, before, 0);
            Check.same("word " + word, bench.servo.word(0, word), KEPT[word - 1][4]);
            Check.same("serial with word " + word, bench.servo.word(0, 0), 0);
        }
        bench.servo.run(1);
        Check.same("serial", bench.servo.word(0, 0), 1);
        for (int word = 0; word <= 21; word++) {
            Check.same("bank 1, word " + word, bench.servo.word(1, word), 0);
        }
    }

    private static void allKept() {
        Bench bench = new Bench(5);
        change(bench);
        save(bench);
        bench.servo.run(23);
        bench.servo.restart();
        for (int[] k : KEPT) {
            Check.same("kept " + Integer.toHexString(k[0]) + ":" + k[1], bench.servo.object(k[0], k[1]), k[4]);
        }
        bench.set(0x1016, 1, 4, 0);
        bench.operate();
        bench.drain();
        bench.servo.tick(-1);
        bench.expect("the kept mapping", 0x185, 8, 0xFFFFFFFFL);
        Check.same("the kept mapping", bench.servo.receive(0x205, 5, 321L << 8 | 1), 3);
        Check.same("PROFILE", bench.servo.object(0x6081, 0), 321);
        Check.same("the COUNT is kept", bench.servo.object(0x1600, 0), 2);
    }

    private static void noWords() {
        Bench bench = new Bench(5);
        save(bench);
        bench.servo.run(23);
        int[][] places = {
            {-1, 0}, {2, 0}, {0, -1}, {0, 22}, {1, 22}, {1, -1}, {-1, 22}, {Integer.MIN_VALUE, 0},
            {Integer.MAX_VALUE, 0}, {0, Integer.MIN_VALUE}, {0, Integer.MAX_VALUE}, {-1, -1},
        };
        for (int[] p : places) {
            Check.same("word(" + p[0] + ", " + p[1] + ")", bench.servo.word(p[0], p[1]), 0);
        }
        Check.same("word(0, 21)", bench.servo.word(0, 21), 50);
        Check.same("word(0, 0)", bench.servo.word(0, 0), 1);
    }

    private static void snapshot() {
        Bench bench = new Bench(5);
        bench.set(0x6081, 0, 4, 77);
        save(bench);
        bench.set(0x6081, 0, 4, 88);
        bench.servo.run(5);
        bench.set(0x6085, 0, 4, 99);
        bench.servo.run(18);
        Check.same("as it was at SAVE", bench.servo.word(0, 19), 77);
        Check.same("as it was at SAVE", bench.servo.word(0, 21), 50);
        Check.same("the object goes on", bench.servo.object(0x6081, 0), 88);
    }

    private static void restore() {
        Bench bench = new Bench(5);
        change(bench);
        save(bench);
        bench.servo.run(23);
        bench.set(0x1011, 1, 4, RESTORE_SIGN);
        bench.servo.run(23);
        for (int word = 1; word <= 21; word++) {
            Check.same("word " + word, bench.servo.word(1, word), KEPT[word - 1][3]);
            int[] k = KEPT[word - 1];
            Check.same("the objects are as before", bench.servo.object(k[0], k[1]), k[4]);
        }
        Check.same("serial", bench.servo.word(1, 0), 2);
        bench.servo.restart();
        for (int[] k : KEPT) {
            Check.same("restored " + Integer.toHexString(k[0]), bench.servo.object(k[0], k[1]), k[3]);
        }
    }

    /** A loss of power after each number of ticks leaves the earlier values or the later ones. */
    private static void givenUp() {
        for (int ticks = 0; ticks <= 24; ticks++) {
            Bench bench = new Bench(5);
            bench.set(0x6081, 0, 4, 11);
            save(bench);
            bench.servo.run(23);
            bench.set(0x6081, 0, 4, 12);
            save(bench);
            bench.servo.run(23);
            bench.set(0x6081, 0, 4, 13);
            save(bench);
            bench.servo.run(ticks);
            bench.servo.restart();
            Check.same("after " + ticks, bench.servo.object(0x6081, 0), ticks < 23 ? 12 : 13);
            Check.same("serial after " + ticks, bench.servo.word(0, 0), ticks == 0 ? 1 : ticks < 23 ? 0 : 3);
            Check.same("what was written stays", bench.servo.word(0, 19), ticks < 20 ? 11 : 13);
            bench.servo.run(50);
            Check.same("it was given up", bench.servo.word(0, 19), ticks < 20 ? 11 : 13);
            Check.same("it was given up", bench.servo.word(0, 0), ticks == 0 ? 1 : ticks < 23 ? 0 : 3);
            save(bench);
            bench.servo.run(23);
            int into = ticks < 23 ? 0 : 1;
            Check.same("the next serial", bench.servo.word(into, 0), ticks < 23 ? 3 : 4);
        }
        Bench first = new Bench(5);
        first.set(0x6081, 0, 4, 11);
        save(first);
        first.servo.run(22);
        first.servo.receive(0, 2, 129);
        Check.same("both serials are 0: START", first.servo.object(0x6081, 0), 100);
    }

    private static void banksInTurn() {
        Bench bench = new Bench(5);
        for (int round = 1; round <= 6; round++) {
            bench.set(0x6081, 0, 4, round);
            save(bench);
            bench.servo.run(1);
            int into = (round + 1) % 2;
            Check.same("serial 0 at first", bench.servo.word(into, 0), 0);
            Check.same("the other bank", bench.servo.word(1 - into, 0), round - 1);
            bench.servo.run(22);
            Check.same("serial", bench.servo.word(into, 0), round);
            Check.same("PROFILE", bench.servo.word(into, 19), round);
            Check.same("the other bank", bench.servo.word(1 - into, 0), round - 1);
        }
        bench.servo.restart();
        Check.same("the newer one", bench.servo.object(0x6081, 0), 6);
    }

    private static void notKept() {
        Bench bench = new Bench(5);
        bench.set(0x607A, 0, 4, 5);
        bench.set(0x60FF, 0, 4, 5);
        bench.set(0x6040, 0, 2, 6);
        save(bench);
        bench.servo.run(23);
        bench.servo.restart();
        Check.same("TARGET", bench.servo.object(0x607A, 0), 0);
        Check.same("TARGET SPEED", bench.servo.object(0x60FF, 0), 0);
        Check.same("CONTROL", bench.servo.object(0x6040, 0), 0);
    }
}
