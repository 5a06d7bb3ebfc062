/** The terms POWER STATES, ORDERS, FAULT and EMERGENCY: each sentence with an edge has its own test. */
public final class PowerEdgesTest {
    private static final int[] STATUS = {0, 0x40, 0x21, 0x23, 0x27, 0x07, 0x0F, 0x08};

    /** One CONTROL for each order: OFF, QUICK, SHUT, ON, RUN, RESET. */
    private static final int[] CONTROLS = {0, 2, 6, 7, 15, 0x80};
    private static final int OFF = 0;
    private static final int QUICK = 1;
    private static final int SHUT = 2;
    private static final int ON = 3;
    private static final int RUN = 4;
    private static final int RESET = 5;

    public static void main(String[] args) {
        statusBits();
        stageOn();
        operatingBit();
        arrivedBit();
        resetOfBitSeven();
        resetAtTheFirstTick();
        bitOne();
        bitTwo();
        bitZero();
        bitThree();
        otherBits();
        inOne();
        inTwo();
        inThree();
        inFour();
        inFive();
        inSix();
        inSeven();
        notSaid();
        faultInSixAndSeven();
        faultElsewhere();
        errorsOfFaults();
        emergencySent();
        emergencyBytes();
        emergencyInStopped();
        Check.end();
    }

    private static void statusBits() {
        Check.sentence("1 DISABLED 0x40, 2 READY 0x21, 3 SWITCHED ON 0x23, 4 ENABLED 0x27, 5 QUICK STOP 0x07, 6 REACTING 0x0F, 7 FAULTY 0x08");
        for (int state = 1; state <= 7; state++) {
            Bench bench = Bench.inState(state);
            Check.same("STATUS in " + state, bench.status(), STATUS[state]);
            Check.same("read in " + state, bench.ask(0x40, 0x6041, 0, 0), Bench.frame(0x4B, 0x6041, 0, STATUS[state]));
        }
    }

    private static void stageOn() {
        Check.sentence("The STAGE is on in 4, 5, 6.");
        for (int state = 1; state <= 7; state++) {
            Bench bench = Bench.inState(state);
            boolean on = state >= 4 && state <= 6;
            int stays = state == 4 ? 15 : 2;
            bench.control(state == 2 ? 6 : state == 3 ? 7 : stays);
            Check.same("run in " + state, bench.servo.run(1), on ? 1 : 0);
            Check.same("still " + state, bench.servo.power(), state);
        }
    }

    private static void operatingBit() {
        Check.sentence("STATUS has 0x200 besides in OPERATING");
        for (int state = 1; state <= 7; state++) {
            Bench bench = Bench.inState(state);
            bench.operate();
            Check.same("in OPERATING", bench.status(), STATUS[state] | 0x200);
            bench.stop();
            Check.same("in STOPPED", bench.status(), STATUS[state]);
            bench.prepare();
            Check.same("in PREPARING", bench.status(), STATUS[state]);
        }
    }

    private static void arrivedBit() {
        Check.sentence("and 0x400 in state 4 with MODE 1 when SPEED is 0 and P is the AIM");
        Bench bench = new Bench(5);
        bench.powerTo(3, 0);
        Check.same("in state 3", bench.status(), 0x23);
        bench.control(15);
        bench.servo.tick(0);
        Check.same("all of it holds", bench.status(), 0x427);
        bench.set(0x6060, 0, 1, 3);
        Check.same("MODE 3", bench.status(), 0x27);
        bench.set(0x6060, 0, 1, 1);
        bench.set(0x607A, 0, 4, 10);
        Check.same("P is not the AIM", bench.status(), 0x27);
        bench.servo.run(1);
        Check.same("P", bench.servo.position(), 10);
        Check.same("SPEED is not 0", bench.status(), 0x27);
        bench.servo.run(1);
        Check.same("all of it holds", bench.status(), 0x427);
        bench.control(2);
        bench.servo.run(1);
        Check.same("in state 5", bench.status(), 0x07);
        Bench fault = new Bench(5);
        fault.powerTo(4, 0);
        fault.cutBus();
        Check.same("in state 6", fault.status(), 0x0F);
        Bench clamped = new Bench(5);
        clamped.set(0x607D, 2, 4, 50);
        clamped.set(0x607A, 0, 4, 51);
        clamped.powerTo(4, 50);
        Check.same("the AIM is CEILING", clamped.status(), 0x427);
    }

    private static void resetOfBitSeven() {
        Check.sentence("bit 7 is 1: RESET, if it was 0 at the tick before (or no tick was made since the power came), else none");
        Bench bench = new Bench(5);
        bench.control(0x80);
        bench.servo.run(1);
        bench.cutBus();
        bench.servo.run(3);
        Check.same("it was 1 at the tick before", bench.servo.power(), 7);
        bench.control(0);
        bench.control(0x80);
        bench.servo.run(1);
        Check.same("0 between two ticks does not count", bench.servo.power(), 7);
        bench.control(0);
        bench.servo.run(1);
        Check.same("no RESET without the bit", bench.servo.power(), 7);
        bench.control(0x80);
        bench.servo.run(1);
        Check.same("it was 0 at the tick before", bench.servo.power(), 1);
        Bench none = Bench.inState(2);
        none.control(0x80);
        none.servo.run(1);
        Check.same("RESET is not OFF", none.servo.power(), 2);
        none.control(0x8F);
        none.servo.run(1);
        Check.same("none is not RUN", none.servo.power(), 2);
        none.control(0x80);
        none.servo.run(1);
        Check.same("none is not OFF", none.servo.power(), 2);
    }

    private static void resetAtTheFirstTick() {
        Check.sentence("(or no tick was made since the power came)");
        Bench bench = new Bench(5);
        bench.cutBus();
        bench.control(0x80);
        bench.servo.run(1);
        Check.same("a new object", bench.servo.power(), 1);
        bench.servo.restart();
        bench.cutBus();
        bench.control(0x80);
        bench.servo.run(1);
        Check.same("the bit was 1 before the power went", bench.servo.power(), 1);
    }

    /** Each CONTROL whose low byte is one of these gives the order, whatever its high byte is. */
    private static void gives(int order, int... lowBytes) {
        for (int state = 2; state <= 4; state++) {
            Bench like = Bench.inState(state);
            like.control(CONTROLS[order]);
            like.servo.run(1);
            for (int low : lowBytes) {
                Bench bench = Bench.inState(state);
                bench.control(low);
                bench.servo.run(1);
                Check.same("CONTROL " + low + " in " + state, bench.servo.power(), like.servo.power());
            }
        }
    }

    private static void bitOne() {
        Check.sentence("Otherwise: bit 1 is 0: OFF.");
        gives(OFF, 0, 1, 4, 5, 8, 9, 12, 13);
        Bench bench = Bench.inState(4);
        bench.control(13);
        bench.servo.run(1);
        Check.same("OFF in 4", bench.servo.power(), 1);
    }

    private static void bitTwo() {
        Check.sentence("Else bit 2 is 0: QUICK.");
        gives(QUICK, 2, 3, 10, 11);
        Bench bench = Bench.inState(4);
        bench.control(11);
        bench.servo.run(1);
        Check.same("QUICK in 4", bench.servo.power(), 5);
    }

    private static void bitZero() {
        Check.sentence("Else bit 0 is 0: SHUT.");
        gives(SHUT, 6, 14);
        Bench bench = Bench.inState(4);
        bench.control(14);
        bench.servo.run(1);
        Check.same("SHUT in 4", bench.servo.power(), 2);
    }

    private static void bitThree() {
        Check.sentence("Else bit 3 is 0: ON. Else RUN.");
        gives(ON, 7);
        gives(RUN, 15);
        Bench bench = Bench.inState(3);
        bench.control(15);
        bench.servo.run(1);
        Check.same("RUN in 3", bench.servo.power(), 4);
        bench.control(7);
        bench.servo.run(1);
        Check.same("ON in 4", bench.servo.power(), 3);
    }

    private static void otherBits() {
        Check.sentence("ORDERS from CONTROL");
        for (int bit = 4; bit < 16; bit++) {
            if (bit != 7) {
                gives(SHUT, 6 | 1 << bit);
                gives(RUN, 15 | 1 << bit);
                gives(OFF, 1 << bit);
            }
        }
        gives(RUN, 0xFF7F);
    }

    /** The states after the orders OFF, QUICK, SHUT, ON, RUN, RESET. */
    private static void orders(int state, int... after) {
        for (int order = OFF; order <= RESET; order++) {
            Bench bench = Bench.inState(state);
            bench.control(CONTROLS[order]);
            bench.servo.run(1);
            Check.same("CONTROL " + CONTROLS[order] + " in " + state, bench.servo.power(), after[order]);
        }
    }

    private static void inOne() {
        Check.sentence("in 1: SHUT to 2");
        orders(1, 1, 1, 2, 1, 1, 1);
    }

    private static void inTwo() {
        Check.sentence("In 2: ON, RUN to 3; OFF, QUICK to 1.");
        orders(2, 1, 1, 2, 3, 3, 2);
    }

    private static void inThree() {
        Check.sentence("In 3: RUN to 4; SHUT to 2; OFF, QUICK to 1.");
        orders(3, 1, 1, 2, 3, 4, 3);
    }

    private static void inFour() {
        Check.sentence("In 4: ON to 3; SHUT to 2; OFF to 1; QUICK to 5.");
        orders(4, 1, 5, 2, 3, 4, 4);
    }

    /** A drive in 5 or 6 with SPEED 0. */
    private static Bench standing(int state) {
        Bench bench = new Bench(5);
        bench.powerTo(4, 0);
        if (state == 5) {
            bench.control(2);
            bench.servo.run(1);
        } else {
            bench.cutBus();
        }
        Check.same("state", bench.servo.power(), state);
        Check.same("SPEED", bench.servo.speed(), 0);
        return bench;
    }

    private static void inFive() {
        Check.sentence("In 5: OFF to 1; other or none: to 1 if SPEED is 0.");
        orders(5, 1, 5, 5, 5, 5, 5);
        for (int control : CONTROLS) {
            Bench bench = standing(5);
            bench.control(control);
            bench.servo.run(1);
            Check.same("CONTROL " + control + ", SPEED 0", bench.servo.power(), 1);
        }
        Bench none = Bench.inState(5);
        none.control(0x80);
        none.servo.run(3);
        Check.same("SPEED", none.servo.speed(), 0);
        Check.same("SPEED became 0 in this tick", none.servo.power(), 5);
        none.servo.run(1);
        Check.same("no order, SPEED 0", none.servo.power(), 1);
    }

    private static void inSix() {
        Check.sentence("In 6: whatever the order: to 7 if SPEED is 0.");
        orders(6, 6, 6, 6, 6, 6, 6);
        for (int control : CONTROLS) {
            Bench bench = standing(6);
            bench.control(control);
            bench.servo.run(1);
            Check.same("CONTROL " + control + ", SPEED 0", bench.servo.power(), 7);
            Check.same("ERRORS stay", bench.value(0x1001, 0), 0x11);
        }
        Bench moving = Bench.inState(6);
        moving.servo.run(4);
        Check.same("SPEED", moving.servo.speed(), 0);
        Check.same("SPEED became 0 in this tick", moving.servo.power(), 6);
        moving.servo.run(1);
        Check.same("SPEED was 0", moving.servo.power(), 7);
    }

    private static void inSeven() {
        Check.sentence("In 7: RESET to 1, ERRORS becomes 0, and an EMERGENCY of code 0.");
        orders(7, 7, 7, 7, 7, 7, 1);
        Bench bench = Bench.inState(7);
        Check.same("ERRORS", bench.value(0x1001, 0), 0x11);
        bench.control(0x80);
        bench.drain();
        bench.servo.run(1);
        Check.same("ERRORS", bench.value(0x1001, 0), 0);
        bench.expect("the EMERGENCY", 0x85, 8, 0);
        bench.expectNothing("one only");
    }

    private static void notSaid() {
        Check.sentence("What is not said changes nothing.");
        int[][] kept = {{1, 0}, {1, 2}, {1, 7}, {1, 15}, {1, 0x80}, {2, 6}, {2, 0x80}, {3, 7}, {3, 0x80}, {7, 0}, {7, 15}};
        for (int[] k : kept) {
            Bench bench = Bench.inState(k[0]);
            int errors = bench.value(0x1001, 0);
            bench.control(k[1]);
            bench.drain();
            bench.servo.run(1);
            String what = "CONTROL " + k[1] + " in " + k[0];
            Check.same(what, bench.servo.power(), k[0]);
            Check.same(what + ", ERRORS", bench.value(0x1001, 0), errors);
            bench.expectNothing(what);
        }
    }

    private static void faultInSixAndSeven() {
        Check.sentence("A FAULT with a code: in the states 6, 7 nothing at all.");
        Bench bench = new Bench(5);
        bench.set(0x6065, 0, 4, 0);
        bench.set(0x607A, 0, 4, 100000);
        bench.set(0x6081, 0, 4, 1000);
        bench.powerTo(4, 0);
        bench.servo.run(30);
        bench.servo.tick(0);
        Check.same("state 6 by WINDOW", bench.servo.power(), 6);
        bench.watch(1);
        bench.drain();
        bench.servo.run(1);
        Check.same("the watch in 6: ERRORS", bench.value(0x1001, 0), 0x21);
        Check.same("the watch in 6: state", bench.servo.power(), 6);
        bench.expectNothing("the watch in 6");
        bench.servo.bus(false);
        Check.same("the bus in 6: ERRORS", bench.value(0x1001, 0), 0x21);
        Check.same("the bus in 6: lost", bench.servo.lost(), 0);
        bench.servo.bus(true);
        bench.servo.run(10);
        Check.same("state 7", bench.servo.power(), 7);
        bench.watch(1);
        bench.drain();
        bench.servo.run(1);
        Check.same("the watch in 7: ERRORS", bench.value(0x1001, 0), 0x21);
        Check.same("the watch in 7: state", bench.servo.power(), 7);
        bench.expectNothing("the watch in 7");
        bench.servo.bus(false);
        Check.same("the bus in 7: ERRORS", bench.value(0x1001, 0), 0x21);
        Check.same("the bus in 7: lost", bench.servo.lost(), 0);
    }

    private static void faultElsewhere() {
        Check.sentence("Else 4, 5 become 6, and 1, 2, 3 become 7");
        for (int state = 1; state <= 5; state++) {
            Bench bench = Bench.inState(state);
            bench.servo.bus(false);
            Check.same("from " + state, bench.servo.power(), state >= 4 ? 6 : 7);
            Check.same("SPEED is as before", bench.servo.speed(), state == 4 ? 200 : state == 5 ? 150 : 0);
        }
    }

    private static void errorsOfFaults() {
        Check.sentence("ERRORS becomes 0x21 for the code 0x8611, else 0x11");
        Bench window = new Bench(5);
        window.powerTo(4, 0);
        window.servo.tick(100001);
        Check.same("0x8611", window.value(0x1001, 0), 0x21);
        Bench watch = new Bench(5);
        watch.watch(1);
        watch.servo.run(1);
        Check.same("0x8130", watch.value(0x1001, 0), 0x11);
        Bench bus = new Bench(5);
        bus.servo.bus(false);
        Check.same("0x8140", bus.value(0x1001, 0), 0x11);
    }

    private static void emergencySent() {
        Check.sentence("an EMERGENCY is sent");
        for (int state = 1; state <= 5; state++) {
            Bench bench = Bench.inState(state);
            bench.watch(1);
            bench.drain();
            bench.servo.run(1);
            bench.expect("from " + state, 0x85, 8, 0x11_8130L);
            bench.expectNothing("one only");
        }
    }

    private static void emergencyBytes() {
        Check.sentence("An EMERGENCY is a frame 0x80 + N of length 8: the code in bytes 0, 1, then ERRORS, then 0");
        for (int node : new int[] {1, 127}) {
            Bench bench = new Bench(node);
            bench.watch(1);
            bench.drain();
            bench.servo.run(1);
            bench.expect("of the watch", 0x80 + node, 8, 0x11_8130L);
            bench.control(0x80);
            bench.drain();
            bench.servo.run(1);
            bench.expect("of RESET", 0x80 + node, 8, 0);
            bench.powerTo(4, 0);
            bench.drain();
            bench.servo.tick(-100001);
            bench.expect("of WINDOW", 0x80 + node, 8, 0x21_8611L);
            bench.expectNothing("at the end");
        }
    }

    private static void emergencyInStopped() {
        Check.sentence("in STOPPED it is not sent");
        Bench bench = new Bench(5);
        bench.watch(1);
        bench.control(0x80);
        bench.stop();
        bench.drain();
        bench.servo.bus(false);
        Check.same("FAULT 0x8140: the state", bench.servo.power(), 7);
        Check.same("ERRORS", bench.value(0x1001, 0), 0x11);
        Check.same("it is not sent, so not lost", bench.servo.lost(), 0);
        bench.servo.bus(true);
        bench.servo.run(1);
        Check.same("RESET", bench.servo.power(), 1);
        bench.expectNothing("RESET in STOPPED");
        bench.servo.receive(0x709, 1, 5);
        bench.servo.run(1);
        Check.same("FAULT 0x8130", bench.servo.power(), 7);
        bench.expectNothing("FAULT 0x8130 in STOPPED");
        bench.operate();
        bench.servo.run(0);
        bench.expectNothing("nor later");
    }
}
