/** The term SAVING and what happens when power COMES: each sentence with an edge has its own test. */
public final class SavingEdgesTest {
    private static final int SAVE_SIGN = 0x65766173;
    private static final int RESTORE_SIGN = 0x64616F6C;

    /** index, sub, START and another value of the words 1 to 21. */
    private static final int[][] KEPT = {
        {0x1016, 1, 0, 0x70007}, {0x1017, 0, 0, 60000}, {0x1600, 0, 1, 2}, {0x1600, 1, 0x60400010, 0x60600008},
        {0x1600, 2, 0, 0x60810020}, {0x1600, 3, 0, -3}, {0x1800, 2, 255, 254}, {0x1800, 3, 0, 11}, {0x1800, 5, 0, 12},
        {0x1A00, 0, 1, 2}, {0x1A00, 1, 0x60410010, 0x60640020}, {0x1A00, 2, 0, 0x606B0020}, {0x1A00, 3, 0, 6},
        {0x6060, 0, 1, 3}, {0x6065, 0, 100000, 13}, {0x607D, 1, -100000, -14}, {0x607D, 2, 100000, 15},
        {0x607F, 0, 1000, 16}, {0x6081, 0, 100, 17}, {0x6083, 0, 10, 18}, {0x6085, 0, 50, 19},
    };
    private static final int PROFILE_WORD = 19;

    public static void main(String[] args) {
        atFirst();
        wordsInOrder();
        valuesAsThen();
        startValues();
        lesserSerial();
        equalSerials();
        fromTheNextTick();
        wordByWord();
        twentyThirdTick();
        over();
        greaterSerial();
        bothZero();
        othersStart();
        mailboxEmpty();
        givenUp();
        statesWhenPowerComes();
        latestSample();
        busIsOn();
        watchNotArmed();
        countsZero();
        startFrame();
        Check.end();
    }

    private static void change(Bench bench) {
        bench.set(0x1600, 0, 1, 0);
        bench.set(0x1A00, 0, 1, 0);
        for (int[] k : KEPT) {
            int bytes = Dictionary.row(k[0], k[1])[2];
            if (k[1] != 0 || k[0] != 0x1600 && k[0] != 0x1A00) {
                bench.set(k[0], k[1], bytes, k[3]);
            }
        }
        bench.set(0x1600, 0, 1, 2);
        bench.set(0x1A00, 0, 1, 2);
    }

    private static void save(Bench bench) {
        bench.set(0x1010, 1, 4, SAVE_SIGN);
    }

    private static void restore(Bench bench) {
        bench.set(0x1011, 1, 4, RESTORE_SIGN);
    }

    /** One whole save with this PROFILE. */
    private static void saveProfile(Bench bench, int profile) {
        bench.set(0x6081, 0, 4, profile);
        save(bench);
        bench.servo.run(23);
    }

    private static void atFirst() {
        Check.sentence("Banks 0 and 1 have words 0 .. 21, at first 0");
        BusServo servo = new BusServo(5);
        servo.run(100);
        for (int place = 0; place <= 21; place++) {
            Check.same("bank 0", servo.word(0, place), 0);
            Check.same("bank 1", servo.word(1, place), 0);
        }
    }

    private static void wordsInOrder() {
        Check.sentence("Those with a * are KEPT.");
        for (int[] o : Dictionary.OBJECTS) {
            boolean kept = false;
            for (int[] k : KEPT) {
                kept |= k[0] == o[0] && k[1] == o[1];
            }
            if (o[3] == Dictionary.B) {
                Bench bench = new Bench(5);
                bench.set(o[0], o[1], o[2], 3);
                save(bench);
                bench.servo.run(23);
                bench.servo.restart();
                Check.same("kept " + Dictionary.name(o), bench.value(o[0], o[1]), kept ? 3 : o[4]);
            }
        }
        Check.sentence("word 0 is the SERIAL, words 1 .. 21 the KEPT objects in the order above");
        Bench bench = new Bench(5);
        change(bench);
        save(bench);
        bench.servo.run(23);
        Check.same("the SERIAL", bench.servo.word(0, 0), 1);
        for (int word = 1; word <= 21; word++) {
            Check.same("word " + word, bench.servo.word(0, word), KEPT[word - 1][3]);
        }
        bench.servo.restart();
        for (int[] k : KEPT) {
            Check.same("kept " + Dictionary.name(k), bench.value(k[0], k[1]), k[3]);
        }
    }

    private static void valuesAsThen() {
        Check.sentence("SAVE begins a save of the values as they are then");
        Bench bench = new Bench(5);
        bench.set(0x6081, 0, 4, 77);
        save(bench);
        bench.set(0x6081, 0, 4, 88);
        bench.servo.run(10);
        bench.set(0x6085, 0, 4, 99);
        bench.servo.run(13);
        Check.same("PROFILE", bench.servo.word(0, PROFILE_WORD), 77);
        Check.same("QUICK", bench.servo.word(0, 21), 50);
        Check.same("the object has the later value", bench.value(0x6081, 0), 88);
    }

    private static void startValues() {
        Check.sentence("RESTORE one of the START values");
        Bench bench = new Bench(5);
        change(bench);
        restore(bench);
        bench.servo.run(23);
        Check.same("the SERIAL", bench.servo.word(0, 0), 1);
        for (int word = 1; word <= 21; word++) {
            int[] k = KEPT[word - 1];
            Check.same("word " + word, bench.servo.word(0, word), k[2]);
            Check.same("the object is as before", bench.value(k[0], k[1]), k[3]);
        }
        save(bench);
        bench.servo.run(23);
        restore(bench);
        bench.servo.run(23);
        Check.same("the SERIAL", bench.servo.word(0, 0), 3);
        for (int word = 1; word <= 21; word++) {
            Check.same("after a SAVE, word " + word, bench.servo.word(0, word), KEPT[word - 1][2]);
            Check.same("what SAVE wrote stays, word " + word, bench.servo.word(1, word), KEPT[word - 1][3]);
        }
    }

    private static void lesserSerial() {
        Check.sentence("It is into the bank with the lesser serial");
        Bench bench = new Bench(5);
        for (int round = 1; round <= 5; round++) {
            int into = 1 - round % 2;
            saveProfile(bench, round);
            Check.same("into bank " + into, bench.servo.word(into, PROFILE_WORD), round);
            Check.same("its serial", bench.servo.word(into, 0), round);
            Check.same("the other one", bench.servo.word(1 - into, PROFILE_WORD), round - 1);
            Check.same("its serial", bench.servo.word(1 - into, 0), round - 1);
        }
        bench.set(0x6081, 0, 4, 9);
        save(bench);
        bench.servo.run(10);
        bench.servo.restart();
        saveProfile(bench, 10);
        Check.same("into the bank that was given up", bench.servo.word(1, PROFILE_WORD), 10);
        Check.same("the other one stays", bench.servo.word(0, PROFILE_WORD), 5);
    }

    private static void equalSerials() {
        Check.sentence("(0 if they are equal)");
        Bench bench = new Bench(5);
        bench.set(0x1017, 0, 2, 3);
        save(bench);
        bench.servo.run(3);
        Check.same("both are 0 at first", bench.servo.word(0, 2), 3);
        Check.same("both are 0 at first", bench.servo.word(1, 2), 0);
        bench.servo.restart();
        bench.set(0x1017, 0, 2, 4);
        save(bench);
        bench.servo.run(23);
        Check.same("both are 0 after it was given up", bench.servo.word(0, 2), 4);
        Check.same("both are 0 after it was given up", bench.servo.word(1, 2), 0);
    }

    private static void fromTheNextTick() {
        Check.sentence("At each tick from the next on it writes one word: first 0 as its serial");
        Bench bench = new Bench(5);
        saveProfile(bench, 1);
        saveProfile(bench, 2);
        bench.set(0x1017, 0, 2, 3);
        save(bench);
        Check.same("nothing before a tick", bench.servo.word(0, 0), 1);
        bench.servo.tick(1000001);
        bench.servo.run(0);
        Check.same("nor by a refused one", bench.servo.word(0, 0), 1);
        bench.servo.tick(0);
        Check.same("the serial becomes 0", bench.servo.word(0, 0), 0);
        Check.same("the other serial stays", bench.servo.word(1, 0), 2);
        Check.same("no other word", bench.servo.word(0, 2), 0);
    }

    private static void wordByWord() {
        Check.sentence("then the words 1 to 21");
        Bench bench = new Bench(5);
        change(bench);
        save(bench);
        bench.servo.run(1);
        for (int word = 1; word <= 21; word++) {
            Check.same("not before its tick", bench.servo.word(0, word), 0);
            bench.servo.run(1);
            Check.same("word " + word, bench.servo.word(0, word), KEPT[word - 1][3]);
            Check.same("the serial", bench.servo.word(0, 0), 0);
        }
        for (int word = 0; word <= 21; word++) {
            Check.same("the other bank", bench.servo.word(1, word), 0);
        }
    }

    private static void twentyThirdTick() {
        Check.sentence("in the 23rd tick as its serial 1 more than the other bank's");
        Bench bench = new Bench(5);
        for (int round = 1; round <= 4; round++) {
            save(bench);
            bench.servo.run(22);
            int into = 1 - round % 2;
            Check.same("22 ticks", bench.servo.word(into, 0), 0);
            bench.servo.run(1);
            Check.same("23 ticks", bench.servo.word(into, 0), round);
        }
        save(bench);
        bench.servo.run(1);
        bench.servo.restart();
        save(bench);
        bench.servo.run(23);
        Check.same("1 more than the other's, not than its own", bench.servo.word(0, 0), 5);
    }

    private static void over() {
        Check.sentence("and is over");
        Bench bench = new Bench(5);
        save(bench);
        bench.servo.run(22);
        Check.same("under way", bench.code(0x1010, 1, 4, SAVE_SIGN), 0x08000022);
        bench.servo.run(1);
        bench.servo.run(100);
        Check.same("nothing more is written", bench.servo.word(0, 0), 1);
        Check.same("bank 1", bench.servo.word(1, 0), 0);
        Check.same("a new one begins", bench.code(0x1010, 1, 4, SAVE_SIGN), 0);
    }

    private static void greaterSerial() {
        Check.sentence("the KEPT objects get the words of the bank with the greater serial");
        Bench bench = new Bench(5);
        for (int round = 1; round <= 4; round++) {
            saveProfile(bench, 10 + round);
            bench.set(0x6081, 0, 4, 7);
            bench.servo.restart();
            Check.same("after save " + round, bench.value(0x6081, 0), 10 + round);
        }
        bench.set(0x6081, 0, 4, 8);
        save(bench);
        bench.servo.run(22);
        bench.servo.restart();
        Check.same("a bank without its serial is not the greater one", bench.value(0x6081, 0), 14);
    }

    private static void bothZero() {
        Check.sentence("(START if both are 0)");
        Bench bench = new Bench(5);
        change(bench);
        bench.servo.restart();
        for (int[] k : KEPT) {
            Check.same("START of " + Dictionary.name(k), bench.value(k[0], k[1]), k[2]);
        }
        change(bench);
        save(bench);
        bench.servo.run(22);
        bench.servo.restart();
        Check.same("a first save without its serial", bench.servo.word(0, PROFILE_WORD), 17);
        for (int[] k : KEPT) {
            Check.same("START of " + Dictionary.name(k), bench.value(k[0], k[1]), k[2]);
        }
    }

    private static void othersStart() {
        Check.sentence("the others START");
        Bench bench = new Bench(5);
        bench.set(0x607A, 0, 4, 5);
        bench.set(0x60FF, 0, 4, 6);
        bench.set(0x6040, 0, 2, 6);
        save(bench);
        bench.servo.run(23);
        bench.servo.restart();
        Check.same("TARGET", bench.value(0x607A, 0), 0);
        Check.same("TARGET SPEED", bench.value(0x60FF, 0), 0);
        Check.same("CONTROL", bench.value(0x6040, 0), 0);
    }

    private static void mailboxEmpty() {
        Check.sentence("the mailbox is empty");
        Bench bench = new Bench(5);
        bench.fillTo(12);
        bench.servo.restart();
        Check.same("only the frame of the start", bench.servo.waiting(), 1);
        Check.same("it was not lost", bench.servo.lost(), 0);
        bench.expect("the start", 0x705, 1, 0);
    }

    private static void givenUp() {
        Check.sentence("a save that was under way is given up (what it has written stays)");
        for (int ticks = 0; ticks <= 23; ticks++) {
            Bench bench = new Bench(5);
            saveProfile(bench, 11);
            saveProfile(bench, 12);
            bench.set(0x6081, 0, 4, 13);
            save(bench);
            bench.servo.run(ticks);
            bench.servo.restart();
            bench.servo.run(60);
            int serial = ticks == 0 ? 1 : ticks < 23 ? 0 : 3;
            Check.same("the serial after " + ticks, bench.servo.word(0, 0), serial);
            Check.same("what it has written after " + ticks, bench.servo.word(0, PROFILE_WORD), ticks < 20 ? 11 : 13);
            Check.same("the earlier ones or the later ones", bench.value(0x6081, 0), ticks < 23 ? 12 : 13);
            Check.same("none is under way", bench.code(0x1010, 1, 4, SAVE_SIGN), 0);
        }
    }

    private static void statesWhenPowerComes() {
        Check.sentence("the network state is PREPARING, the power state 1, ERRORS and SPEED 0");
        for (int state = 1; state <= 7; state++) {
            for (int network : new int[] {1, 2, 128}) {
                Bench bench = Bench.inState(state);
                bench.servo.receive(0, 2, network);
                bench.servo.restart();
                Check.same("network", bench.servo.network(), 127);
                Check.same("power", bench.servo.power(), 1);
                Check.same("ERRORS", bench.value(0x1001, 0), 0);
                Check.same("SPEED", bench.servo.speed(), 0);
                Check.same("606B:0", bench.value(0x606B, 0), 0);
                Check.same("STATUS", bench.status(), 0x40);
            }
        }
    }

    private static void latestSample() {
        Check.sentence("P the latest sample");
        Check.same("none yet", new BusServo(5).position(), 0);
        Bench bench = Bench.inState(4);
        bench.servo.tick(2050);
        Check.holds("P is another", bench.servo.position() != 2050);
        bench.servo.restart();
        Check.same("P", bench.servo.position(), 2050);
        bench.servo.restart();
        Check.same("P once more", bench.servo.position(), 2050);
        bench.servo.tick(1000001);
        bench.servo.restart();
        Check.same("a refused sample is none", bench.servo.position(), 2050);
    }

    private static void busIsOn() {
        Check.sentence("the bus is on");
        Bench bench = new Bench(5);
        bench.servo.bus(false);
        bench.servo.restart();
        bench.expect("the frame of the start waits", 0x705, 1, 0);
        Check.same("frames are taken", bench.servo.receive(0, 2, 1), 1);
        bench.servo.bus(true);
        Check.same("it is on already", bench.servo.power(), 1);
        bench.servo.bus(false);
        Check.same("so it can go off", bench.servo.power(), 7);
    }

    private static void watchNotArmed() {
        Check.sentence("the watch not armed");
        Bench bench = new Bench(5);
        bench.set(0x1016, 1, 4, 9 << 16 | 5);
        save(bench);
        bench.servo.run(23);
        bench.servo.receive(0x709, 1, 5);
        bench.servo.run(3);
        bench.servo.restart();
        Check.same("WATCH is kept", bench.value(0x1016, 1), 9 << 16 | 5);
        bench.servo.run(20);
        Check.same("not armed", bench.servo.power(), 1);
        bench.servo.receive(0x709, 1, 5);
        bench.servo.run(4);
        Check.same("its count began with 0", bench.servo.power(), 1);
        bench.servo.run(1);
        Check.same("armed again", bench.servo.power(), 7);
    }

    private static void countsZero() {
        Check.sentence("all counts 0");
        Bench bench = new Bench(5);
        bench.set(0x1017, 0, 2, 30);
        bench.set(0x1800, 2, 1, 3);
        save(bench);
        bench.servo.run(29);
        bench.operate();
        bench.sync();
        bench.sync();
        bench.servo.restart();
        bench.drain();
        bench.operate();
        bench.servo.run(29);
        bench.expectNothing("29 ticks for BEAT");
        bench.servo.run(1);
        bench.expect("30 ticks for BEAT", 0x705, 1, 5);
        bench.sync();
        bench.sync();
        bench.expectNothing("2 SYNC frames");
        bench.sync();
        bench.expect("3 SYNC frames", 0x185, 2, 0x240);
    }

    private static void startFrame() {
        Check.sentence("a frame 0x700 + N of length 1 with byte 0 is sent");
        for (int node : new int[] {1, 127}) {
            Bench bench = new Bench(node);
            bench.expect("a new object", 0x700 + node, 1, 0);
            bench.expectNothing("one only");
            bench.servo.restart();
            bench.expect("a restart", 0x700 + node, 1, 0);
            bench.expectNothing("one only");
        }
    }
}
