/** The sections "Promise 1" to "Promise 18": each sentence that names an edge, with a test of its own. */
public final class CallsEdgesTest {
    public static void main(String[] args) {
        newObject();
        bytesFromTheLengthOn();
        refusedFrames();
        takenAs();
        notTakenBusOff();
        notTaken();
        tick();
        refusedTick();
        run();
        refusedRun();
        runSamples();
        runAnswer();
        busOff();
        busFault();
        busSoAlready();
        restart();
        nextIdentifier();
        nextLength();
        nextData();
        take();
        waiting();
        lost();
        object();
        noObject();
        network();
        power();
        speed();
        position();
        word();
        Check.end();
    }

    private static void newObject() {
        Check.sentence("The power comes, with node number node; 1 if that is not 1 .. 127.");
        int[][] rows = {
            {1, 1}, {2, 2}, {127, 127}, {126, 126}, {128, 1}, {0, 1}, {-1, 1}, {-127, 1}, {129, 1}, {257, 1},
            {Integer.MAX_VALUE, 1}, {Integer.MIN_VALUE, 1},
        };
        for (int[] row : rows) {
            BusServo servo = new BusServo(row[0]);
            Check.same("the start of node " + row[0], servo.nextIdentifier(), 0x700 + row[1]);
            Check.same("its channel", servo.receive(0x600 + row[1], 8, 0x40), 4);
            Check.same("its network frame", servo.receive(0, 2, row[1] << 8 | 1), 1);
            Check.same("its IN", servo.receive(0x200 + row[1], 2, 6), 3);
        }
    }

    private static void bytesFromTheLengthOn() {
        Check.sentence("A frame comes (bytes of data from the length on do not matter).");
        Bench bench = new Bench(5);
        Check.same("a network frame", bench.servo.receive(0, 2, 0xFFFFFFFFFFFF0501L), 1);
        Check.same("its state", bench.servo.network(), 5);
        Check.same("IN", bench.in(2, 0xFFFFFFFFFFFF0006L), 3);
        Check.same("CONTROL", bench.value(0x6040, 0), 6);
        Check.same("SYNC", bench.servo.receive(0x80, 0, -1), 2);
        bench.set(0x1016, 1, 4, 9 << 16 | 5);
        Check.same("a heartbeat", bench.servo.receive(0x709, 1, -1), 5);
    }

    private static void refusedFrames() {
        Check.sentence("REFUSED if identifier or length are no such numbers.");
        for (int on = 0; on <= 1; on++) {
            Bench bench = new Bench(5);
            bench.operate();
            bench.servo.bus(on == 1);
            int waiting = bench.servo.waiting();
            for (int identifier : new int[] {-1, 2048, 2048 + 0x605, Integer.MIN_VALUE, Integer.MAX_VALUE}) {
                Check.same("identifier " + identifier, bench.servo.receive(identifier, 8, 0x40), BusServo.REFUSED);
            }
            for (int length : new int[] {-1, 9, 10, Integer.MIN_VALUE, Integer.MAX_VALUE}) {
                Check.same("SYNC, length " + length, bench.servo.receive(0x80, length, 0), BusServo.REFUSED);
                Check.same("IN, length " + length, bench.servo.receive(0x205, length, 6), BusServo.REFUSED);
                Check.same("both", bench.servo.receive(-1, length, 6), BusServo.REFUSED);
            }
            Check.same("CONTROL is as before", bench.value(0x6040, 0), 0);
            Check.same("nothing is sent", bench.servo.waiting(), waiting);
        }
    }

    private static void takenAs() {
        Check.sentence("Otherwise what it was taken as: 1 network state, 2 SYNC, 3 IN, 4 the channel (also for command 0x80), 5 a heartbeat");
        Bench bench = new Bench(5);
        bench.set(0x1016, 1, 4, 9 << 16 | 5);
        for (int command : new int[] {1, 2, 128, 1}) {
            Check.same("network state " + command, bench.servo.receive(0, 2, command), 1);
        }
        Check.same("SYNC", bench.servo.receive(0x80, 0, 0), 2);
        Check.same("IN", bench.servo.receive(0x205, 2, 0), 3);
        Check.same("IN with values out of range", bench.servo.receive(0x205, 8, -1), 3);
        Check.same("the channel", bench.servo.receive(0x605, 8, 0x40), 4);
        Check.same("the channel, another command", bench.servo.receive(0x605, 8, 0), 4);
        Check.same("the channel, command 0x80", bench.servo.receive(0x605, 8, 0x80), 4);
        Check.same("a heartbeat", bench.servo.receive(0x709, 1, 0), 5);
        Check.same("129", bench.servo.receive(0, 2, 129), 1);
    }

    private static void notTakenBusOff() {
        Check.sentence("0, changing nothing, if the bus is off");
        Bench bench = new Bench(5);
        bench.set(0x1016, 1, 4, 9 << 16 | 2);
        bench.set(0x1800, 2, 1, 1);
        bench.operate();
        bench.servo.bus(false);
        int lost = bench.servo.lost();
        for (int command : new int[] {1, 2, 128, 129}) {
            Check.same("network state " + command, bench.servo.receive(0, 2, command), 0);
        }
        Check.same("SYNC", bench.sync(), 0);
        Check.same("IN", bench.in(2, 0x80), 0);
        Check.same("the channel", bench.servo.receive(0x605, 8, Bench.frame(0x23, 0x6081, 0, 5)), 0);
        Check.same("the channel, command 0x80", bench.servo.receive(0x605, 8, 0x80), 0);
        Check.same("a heartbeat", bench.servo.receive(0x709, 1, 0), 0);
        Check.same("network", bench.servo.network(), 5);
        Check.same("CONTROL", bench.value(0x6040, 0), 0);
        Check.same("PROFILE", bench.value(0x6081, 0), 100);
        Check.same("nothing was sent, so nothing lost", bench.servo.lost(), lost);
        bench.servo.bus(true);
        bench.control(0x80);
        bench.servo.run(5);
        Check.same("the watch was not armed", bench.servo.power(), 1);
    }

    private static void notTaken() {
        Check.sentence("or if it is not taken: the identifier, length, network state or bytes are not those said above");
        Bench bench = new Bench(5);
        bench.drain();
        int[] identifiers = {1, 0x7F, 0x81, 0x85, 0x100, 0x185, 0x1FF, 0x200, 0x204, 0x206, 0x585, 0x600, 0x604, 0x606,
            0x700, 0x705, 0x709, 0x77F, 0x780, 0x7FF};
        for (int network : new int[] {128, 1, 2}) {
            bench.servo.receive(0, 2, network);
            for (int identifier : identifiers) {
                Check.same("identifier " + identifier, bench.servo.receive(identifier, 8, 0x40), 0);
                Check.same("identifier " + identifier, bench.servo.receive(identifier, 1, 1), 0);
            }
        }
        bench.expectNothing("nothing is sent");
        bench.prepare();
        Check.same("length", bench.servo.receive(0x605, 7, Bench.frame(0x23, 0x6081, 0, 5)), 0);
        Check.same("network state", bench.in(2, 6), 0);
        Check.same("bytes", bench.servo.receive(0, 2, 0x0601), 0);
        Check.same("PROFILE", bench.value(0x6081, 0), 100);
        Check.same("CONTROL", bench.value(0x6040, 0), 0);
        Check.same("network", bench.servo.network(), 127);
        bench.expectNothing("nothing is sent");
    }

    private static void tick() {
        Check.sentence("One tick; false, changing nothing, if the sample is not -1000000 .. 1000000.");
        Bench bench = new Bench(5);
        bench.set(0x1017, 0, 2, 1);
        int[] samples = {-1000000, 1000000, 0, -1, 999999};
        for (int k = 0; k < samples.length; k++) {
            Check.holds("tick(" + samples[k] + ")", bench.servo.tick(samples[k]));
            Check.same("P", bench.servo.position(), samples[k]);
            Check.same("one tick", bench.servo.waiting(), k + 1);
        }
    }

    private static void refusedTick() {
        Check.sentence("false, changing nothing, if the sample is not -1000000 .. 1000000");
        Bench bench = new Bench(5);
        bench.servo.tick(7);
        bench.control(6);
        bench.watch(1);
        bench.set(0x1010, 1, 4, 0x65766173);
        bench.set(0x1017, 0, 2, 1);
        bench.operate();
        for (int sample : new int[] {-1000001, 1000001, Integer.MIN_VALUE, Integer.MAX_VALUE}) {
            Check.fails("tick(" + sample + ")", bench.servo.tick(sample));
        }
        Check.same("P", bench.servo.position(), 7);
        Check.same("SAMPLE", bench.value(0x6064, 0), 7);
        Check.same("power", bench.servo.power(), 1);
        bench.expectNothing("nothing is sent");
        bench.servo.tick(7);
        Check.same("word 1 is not written yet", bench.servo.word(0, 1), 0);
    }

    private static void run() {
        Check.sentence("Makes ticks (0 .. 100; else REFUSED, and none is made)");
        for (int ticks : new int[] {0, 1, 2, 99, 100}) {
            Bench bench = new Bench(5);
            bench.set(0x1017, 0, 2, 1);
            Check.same("run(" + ticks + ")", bench.servo.run(ticks), 0);
            Check.same("so many ticks", bench.servo.waiting() + bench.servo.lost(), ticks);
        }
    }

    private static void refusedRun() {
        Check.sentence("else REFUSED, and none is made");
        Bench bench = new Bench(5);
        bench.control(6);
        bench.set(0x1017, 0, 2, 1);
        for (int ticks : new int[] {-1, 101, -100, Integer.MIN_VALUE, Integer.MAX_VALUE}) {
            Check.same("run(" + ticks + ")", bench.servo.run(ticks), BusServo.REFUSED);
        }
        bench.expectNothing("none is made");
        Check.same("power", bench.servo.power(), 1);
    }

    private static void runSamples() {
        Check.sentence("each with the P of its beginning as the sample");
        Bench off = new Bench(5);
        off.servo.tick(-1000000);
        off.servo.run(5);
        Check.same("with the stage off", off.servo.position(), -1000000);
        Bench bench = new Bench(5);
        bench.set(0x6065, 0, 4, 0);
        bench.set(0x607A, 0, 4, 100000);
        bench.powerTo(4, 0);
        for (int k = 0; k < 5; k++) {
            int before = bench.servo.position();
            bench.servo.run(1);
            Check.same("SAMPLE", bench.value(0x6064, 0), before);
        }
        bench.servo.run(20);
        Check.same("the last of many", bench.value(0x6064, 0), bench.servo.position() - bench.servo.speed());
        Check.same("WINDOW 0 holds", bench.servo.power(), 4);
    }

    private static void runAnswer() {
        Check.sentence("Answers at the end of how many of them the stage was on.");
        Bench bench = Bench.inState(3);
        Check.same("none of them", bench.servo.run(10), 0);
        bench.control(15);
        Check.same("all, for the first enables", bench.servo.run(10), 10);
        bench.control(7);
        Check.same("none, for the first disables", bench.servo.run(10), 0);
        bench.control(15);
        Check.same("no ticks", bench.servo.run(0), 0);
        bench.servo.run(5);
        Check.same("SPEED", bench.servo.speed(), 50);
        bench.control(2);
        Check.same("one tick of QUICK STOP", bench.servo.run(10), 1);
        Bench reacting = Bench.inState(6);
        Check.same("four ticks of REACTING", reacting.servo.run(100), 4);
        Check.same("FAULTY", reacting.servo.run(100), 0);
    }

    private static void busOff() {
        Check.sentence("The bus goes on, or off: then the mailbox is emptied (these frames are not LOST ones)");
        Bench bench = new Bench(5);
        bench.fillTo(12);
        bench.stop();
        bench.servo.bus(false);
        bench.expectNothing("emptied");
        Check.same("not LOST", bench.servo.lost(), 0);
        bench.servo.bus(true);
        bench.expectNothing("on again");
        bench.operate();
        Check.same("frames are taken again", bench.servo.network(), 5);
    }

    private static void busFault() {
        Check.sentence("and after that there is a FAULT 0x8140");
        Bench bench = new Bench(5);
        bench.fillTo(12);
        bench.servo.bus(false);
        Check.same("the state", bench.servo.power(), 7);
        Check.same("ERRORS", bench.value(0x1001, 0), 0x11);
        bench.expectNothing("its EMERGENCY does not wait");
        Check.same("it is LOST", bench.servo.lost(), 1);
        bench.servo.bus(true);
        Check.same("going on is none", bench.servo.lost(), 1);
        bench.control(0x80);
        bench.servo.run(1);
        Check.same("RESET", bench.servo.power(), 1);
        bench.cutBus();
        Check.same("each time", bench.servo.lost(), 2);
        Check.same("the state", bench.servo.power(), 7);
    }

    private static void busSoAlready() {
        Check.sentence("Nothing happens if it is so already.");
        Bench on = new Bench(5);
        on.fillTo(5);
        on.servo.bus(true);
        Check.same("on: waiting", on.servo.waiting(), 5);
        Check.same("on: power", on.servo.power(), 1);
        Bench off = new Bench(5);
        off.control(0x80);
        off.servo.bus(false);
        off.servo.run(1);
        Check.same("RESET while it is off", off.servo.power(), 1);
        int lost = off.servo.lost();
        off.servo.bus(false);
        Check.same("off: no FAULT", off.servo.power(), 1);
        Check.same("off: lost", off.servo.lost(), lost);
        Check.same("off: ERRORS", off.value(0x1001, 0), 0);
    }

    private static void restart() {
        Check.sentence("The power goes and comes.");
        Bench bench = Bench.inState(4);
        bench.operate();
        bench.fillTo(12);
        bench.servo.restart();
        Check.same("network", bench.servo.network(), 127);
        Check.same("power", bench.servo.power(), 1);
        Check.same("TARGET", bench.value(0x607A, 0), 0);
        bench.expect("the start, with the same node number", 0x705, 1, 0);
        bench.expectNothing("the start alone");
    }

    private static void nextIdentifier() {
        Check.sentence("The identifier of the NEXT frame; -1 if none waits.");
        Bench bench = new Bench(127);
        Check.same("the start", bench.servo.nextIdentifier(), 0x77F);
        bench.send(0x40, 0x1001, 0, 0);
        Check.same("an answer", bench.servo.nextIdentifier(), 0x5FF);
        Check.same("asking takes nothing", bench.servo.waiting(), 2);
        bench.drain();
        Check.same("none waits", bench.servo.nextIdentifier(), -1);
    }

    private static void nextLength() {
        Check.sentence("The length of the NEXT frame; -1 if none waits.");
        Bench bench = new Bench(127);
        Check.same("the start", bench.servo.nextLength(), 1);
        bench.send(0x40, 0x1001, 0, 0);
        Check.same("an answer", bench.servo.nextLength(), 8);
        Check.same("asking takes nothing", bench.servo.waiting(), 2);
        bench.drain();
        Check.same("none waits", bench.servo.nextLength(), -1);
    }

    private static void nextData() {
        Check.sentence("The bytes of the NEXT frame; 0 if none waits.");
        Bench bench = new Bench(127);
        bench.set(0x607A, 0, 4, -1);
        bench.send(0x40, 0x607A, 0, 0);
        Check.same("an answer", bench.servo.nextData(), 0xFFFFFFFF_00_607A_43L);
        Check.same("asking takes nothing", bench.servo.nextData(), 0xFFFFFFFF_00_607A_43L);
        bench.servo.take();
        Check.same("none waits", bench.servo.nextData(), 0);
    }

    private static void take() {
        Check.sentence("The NEXT frame leaves the mailbox; false if none waits.");
        Bench bench = new Bench(5);
        bench.send(0x40, 0x1001, 0, 0);
        Check.holds("the answer", bench.servo.take());
        Check.same("the start is the NEXT one", bench.servo.nextIdentifier(), 0x705);
        Check.holds("the start", bench.servo.take());
        Check.fails("none waits", bench.servo.take());
        Check.same("waiting", bench.servo.waiting(), 0);
        Check.same("taken ones are not lost", bench.servo.lost(), 0);
        bench.fillTo(12);
        for (int k = 0; k < 12; k++) {
            Check.holds("twelve", bench.servo.take());
        }
        Check.fails("no thirteenth", bench.servo.take());
    }

    private static void waiting() {
        Check.sentence("How many frames wait.");
        Bench bench = new Bench(5);
        Check.same("the start", bench.servo.waiting(), 1);
        bench.servo.take();
        Check.same("none", bench.servo.waiting(), 0);
        bench.servo.take();
        Check.same("never less than none", bench.servo.waiting(), 0);
        for (int k = 1; k <= 14; k++) {
            bench.send(0x40, 0x1001, 0, 0);
            Check.same("never more than 12", bench.servo.waiting(), Math.min(k, 12));
        }
    }

    private static void lost() {
        Check.sentence("How many frames were LOST since the beginning (power lost does not change it).");
        Bench bench = new Bench(5);
        Check.same("none", bench.servo.lost(), 0);
        bench.fillTo(12);
        bench.send(0x40, 0x1001, 0, 0);
        bench.send(0x40, 0x1001, 0, 0);
        Check.same("two", bench.servo.lost(), 2);
        bench.servo.restart();
        Check.same("power lost", bench.servo.lost(), 2);
        bench.servo.receive(0, 2, 129);
        Check.same("by a frame", bench.servo.lost(), 2);
        bench.servo.bus(false);
        Check.same("three", bench.servo.lost(), 3);
        bench.servo.restart();
        Check.same("power lost with the bus off", bench.servo.lost(), 3);
    }

    private static void object() {
        Check.sentence("The value of an object");
        Bench bench = new Bench(5);
        for (int[] o : Dictionary.OBJECTS) {
            Check.same(Dictionary.name(o), bench.value(o[0], o[1]), o[4]);
        }
        bench.set(0x607A, 0, 4, -5);
        bench.stop();
        Check.same("in STOPPED", bench.value(0x607A, 0), -5);
        bench.servo.bus(false);
        Check.same("with the bus off", bench.value(0x607A, 0), -5);
        Check.same("STATUS", bench.value(0x6041, 0), 0x08);
    }

    private static void noObject() {
        Check.sentence("0 if there is none, or it is of kind w");
        Bench bench = new Bench(5);
        int[][] places = {
            {0x6081, 1}, {0x6081, -1}, {0x6081, 256}, {0x6080, 256}, {0x6082, -256}, {0x16081, 0}, {0x6081 - 65536, 0},
            {0x1800, 0}, {0x1800, 1}, {0x1800, 4}, {0x1800, 6}, {0x1600, 4}, {0x1A00, 4}, {0x607D, 0}, {0x607D, 3},
            {0x607C, 257}, {0, 0}, {-1, -1}, {0x6081, Integer.MIN_VALUE}, {0x6081, Integer.MAX_VALUE},
            {Integer.MIN_VALUE + 0x6081, 0}, {0x01006081, 0}, {Integer.MAX_VALUE, 0}, {Integer.MIN_VALUE, 0},
        };
        for (int[] p : places) {
            Check.same("object(" + p[0] + ", " + p[1] + ")", bench.value(p[0], p[1]), 0);
        }
        bench.set(0x1010, 1, 4, 0x65766173);
        Check.same("SAVE", bench.value(0x1010, 1), 0);
        bench.servo.run(23);
        bench.set(0x1011, 1, 4, 0x64616F6C);
        Check.same("RESTORE", bench.value(0x1011, 1), 0);
    }

    private static void network() {
        Check.sentence("The network state.");
        Bench bench = new Bench(5);
        Check.same("PREPARING", bench.servo.network(), 127);
        bench.operate();
        Check.same("OPERATING", bench.servo.network(), 5);
        bench.servo.bus(false);
        Check.same("the bus off leaves it", bench.servo.network(), 5);
        bench.servo.bus(true);
        bench.stop();
        bench.servo.run(10);
        Check.same("STOPPED", bench.servo.network(), 4);
    }

    private static void power() {
        Check.sentence("The power state.");
        for (int state = 1; state <= 7; state++) {
            Check.same("state " + state, Bench.inState(state).servo.power(), state);
        }
    }

    private static void speed() {
        Check.sentence("SPEED.");
        Check.same("at first", new BusServo(5).speed(), 0);
        Check.same("forth", Bench.inState(4).servo.speed(), 200);
        Bench bench = new Bench(5);
        bench.powerTo(4, 30);
        Check.same("back", bench.servo.speed(), -10);
        Check.same("the object", bench.value(0x606B, 0), -10);
    }

    private static void position() {
        Check.sentence("P, the position that is demanded.");
        Check.same("at first", new BusServo(5).position(), 0);
        Bench bench = new Bench(5);
        bench.powerTo(4, 1000000);
        Check.same("demanded", bench.servo.position(), 999990);
        Check.same("not the sample", bench.value(0x6064, 0), 1000000);
    }

    private static void word() {
        Check.sentence("A word of a bank; 0 if there is none.");
        Bench bench = new Bench(5);
        for (int round = 0; round < 2; round++) {
            bench.set(0x1010, 1, 4, 0x65766173);
            bench.servo.run(23);
        }
        for (int bank = 0; bank < 2; bank++) {
            Check.same("the first word", bench.servo.word(bank, 0), bank + 1);
            Check.same("the last word", bench.servo.word(bank, 21), 50);
            Check.same("before the first", bench.servo.word(bank, -1), 0);
            Check.same("after the last", bench.servo.word(bank, 22), 0);
            Check.same("the least int", bench.servo.word(bank, Integer.MIN_VALUE), 0);
            Check.same("the greatest int", bench.servo.word(bank, Integer.MAX_VALUE), 0);
        }
        for (int bank : new int[] {-1, 2, Integer.MIN_VALUE, Integer.MAX_VALUE}) {
            for (int place : new int[] {0, 21, -1, 22}) {
                Check.same("bank " + bank, bench.servo.word(bank, place), 0);
            }
        }
    }
}
