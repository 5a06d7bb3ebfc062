/** Promises 3 and 15: the power states, the orders from CONTROL, the faults, and STATUS. */
public final class OrdersTest {
    private static final int NONE = 0;
    private static final int RESET = 1;
    private static final int OFF = 2;
    private static final int QUICK = 3;
    private static final int SHUT = 4;
    private static final int ON = 5;
    private static final int RUN = 6;

    private static final int[] STATUS = {0, 0x40, 0x21, 0x23, 0x27, 0x07, 0x0F, 0x08};

    /** By state and order: the state after it; 5 and 6 while the drive moves. */
    private static final int[][] AFTER = {
        {},
        {1, 1, 1, 1, 2, 1, 1},
        {2, 2, 1, 1, 2, 3, 3},
        {3, 3, 1, 1, 2, 3, 4},
        {4, 4, 1, 5, 2, 3, 4},
        {5, 5, 1, 5, 5, 5, 5},
        {6, 6, 6, 6, 6, 6, 6},
        {7, 1, 7, 7, 7, 7, 7},
    };

    public static void main(String[] args) {
        for (int state = 1; state <= 7; state++) {
            allControls(state);
            faults(state);
        }
        standing();
        resetBit();
        arrived();
        Check.end();
    }

    private static int order(int control, boolean bitBefore) {
        if ((control & 0x80) != 0) {
            return bitBefore ? NONE : RESET;
        }
        switch (control & 7) {
            case 7:
                return (control & 8) == 0 ? ON : RUN;
            case 6:
                return SHUT;
            case 3:
            case 2:
                return QUICK;
            default:
                return OFF;
        }
    }

    private static void allControls(int state) {
        for (int control = 0; control < 512; control++) {
            Bench bench = Bench.inState(state);
            Check.same("STATUS in " + state, bench.status(), STATUS[state]);
            bench.control(control);
            int after = AFTER[state][order(control, false)];
            bench.servo.run(1);
            Check.same("CONTROL " + control + " in " + state, bench.servo.power(), after);
            Check.same("STATUS in " + after, bench.status(), STATUS[after]);
            boolean stageOff = after < 4 || after == 7;
            Check.same("speed 0 is due to the stage off", bench.servo.speed() == 0 ? 1 : 0, stageOff ? 1 : 0);
        }
    }

    private static void faults(int state) {
        Bench bench = Bench.inState(state);
        int errors = bench.servo.object(0x1001, 0);
        bench.set(0x1016, 1, 4, 9 << 16 | 1);
        bench.servo.receive(0x709, 1, 5);
        bench.drain();
        bench.servo.run(1);
        boolean stageOn = state >= 4 && state <= 6;
        Check.same("fault in " + state, bench.servo.power(), stageOn ? 6 : 7);
        boolean newFault = state < 6;
        Check.same("ERRORS after " + state, bench.servo.object(0x1001, 0), newFault ? 0x11 : errors);
        if (newFault) {
            bench.expect("emergency in " + state, 0x85, 8, 0x118130);
        }
        bench.expectNothing("emergency in " + state);
    }

    private static void standing() {
        Bench bench = Bench.inState(5);
        for (int k = 0; k < 3; k++) {
            Check.same("still moving", bench.servo.run(1), 1);
        }
        Check.same("speed", bench.servo.speed(), 0);
        Check.same("quick stop", bench.servo.power(), 5);
        bench.control(15);
        Check.same("the end of the quick stop", bench.servo.run(1), 0);
        Check.same("disabled", bench.servo.power(), 1);
        Bench none = Bench.inState(5);
        none.control(0x80);
        none.servo.run(3);
        Check.same("quick stop without an order", none.servo.power(), 5);
        none.servo.run(1);
        Check.same("disabled without an order", none.servo.power(), 1);
        Bench faulty = Bench.inState(6);
        Check.same("reacting", faulty.servo.run(4), 4);
        Check.same("speed", faulty.servo.speed(), 0);
        Check.same("reacting", faulty.servo.power(), 6);
        Check.same("the end of it", faulty.servo.run(1), 0);
        Check.same("faulty", faulty.servo.power(), 7);
        Check.same("ERRORS stay", faulty.servo.object(0x1001, 0), 0x11);
        Bench still = new Bench(5);
        still.powerTo(4, 0);
        still.servo.bus(false);
        Check.same("reacting", still.servo.power(), 6);
        still.servo.run(1);
        Check.same("standing, it is faulty at once", still.servo.power(), 7);
    }

    private static void resetBit() {
        Bench bench = new Bench(5);
        bench.control(0x80);
        bench.servo.run(1);
        bench.servo.bus(false);
        bench.servo.bus(true);
        bench.servo.run(5);
        Check.same("the bit was 1 before", bench.servo.power(), 7);
        bench.control(0);
        bench.control(0x80);
        bench.servo.run(1);
        Check.same("it was not 0 at a tick", bench.servo.power(), 7);
        bench.control(0);
        bench.servo.run(1);
        bench.control(0x8F);
        bench.servo.run(1);
        Check.same("it was 0 at the tick before", bench.servo.power(), 1);
        Bench first = new Bench(5);
        first.servo.bus(false);
        first.servo.bus(true);
        first.control(0x80);
        first.servo.run(1);
        Check.same("no tick before", first.servo.power(), 1);
        first.servo.restart();
        first.servo.bus(false);
        first.servo.bus(true);
        first.control(0x80);
        first.servo.run(1);
        Check.same("no tick since the power came", first.servo.power(), 1);
    }

    private static void arrived() {
        Bench bench = new Bench(5);
        bench.powerTo(4, 0);
        Check.same("at the aim", bench.status(), 0x427);
        bench.set(0x607A, 0, 4, 1);
        Check.same("another target", bench.status(), 0x27);
        bench.set(0x607A, 0, 4, 0);
        bench.set(0x6060, 0, 1, 3);
        Check.same("MODE 3", bench.status(), 0x27);
        bench.set(0x6060, 0, 1, 1);
        bench.operate();
        Check.same("in OPERATING", bench.status(), 0x627);
        bench.stop();
        Check.same("in STOPPED", bench.status(), 0x427);
        bench.prepare();
        bench.set(0x607A, 0, 4, 10);
        bench.servo.run(1);
        Check.same("there, but moving", bench.servo.position(), 10);
        Check.same("STATUS", bench.status(), 0x27);
        bench.servo.run(1);
        Check.same("standing there", bench.status(), 0x427);
        bench.control(2);
        bench.servo.run(1);
        Check.same("in 5", bench.status(), 0x07);
        Bench low = new Bench(5);
        low.set(0x607D, 1, 4, -50);
        low.set(0x607D, 2, 4, 50);
        low.set(0x607A, 0, 4, 60);
        low.powerTo(4, 50);
        Check.same("the aim is CEILING", low.status(), 0x427);
        low.set(0x607A, 0, 4, 49);
        Check.same("the aim is below", low.status(), 0x27);
    }
}
