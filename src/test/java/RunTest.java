/** Promise 4: run. */
public final class RunTest {
    public static void main(String[] args) {
        refused();
        samples();
        stageOn();
        Check.end();
    }

    private static void refused() {
        Bench bench = new Bench(5);
        bench.set(0x1017, 0, 2, 1);
        bench.control(6);
        for (int ticks : new int[] {-1, 101, Integer.MIN_VALUE, Integer.MAX_VALUE}) {
            Check.same("run(" + ticks + ")", bench.servo.run(ticks), BusServo.REFUSED);
        }
        Check.same("run(0)", bench.servo.run(0), 0);
        Check.same("no tick was made", bench.servo.power(), 1);
        bench.expectNothing("no tick was made");
        Check.same("run(100)", bench.servo.run(100), 0);
        Check.same("100 heartbeats", bench.servo.waiting() + bench.servo.lost(), 100);
        Check.same("run(1)", bench.servo.run(1), 0);
        Check.same("101 heartbeats", bench.servo.waiting() + bench.servo.lost(), 101);
    }

    private static void samples() {
        Bench bench = new Bench(5);
        bench.servo.tick(321);
        bench.servo.run(3);
        Check.same("the stage off: P stays", bench.servo.position(), 321);
        Check.same("SAMPLE", bench.servo.object(0x6064, 0), 321);
        bench.set(0x6065, 0, 4, 0);
        bench.powerTo(4, 321);
        int before = bench.servo.position();
        bench.servo.run(1);
        Check.same("SAMPLE is the P of the beginning", bench.servo.object(0x6064, 0), before);
        before = bench.servo.position();
        bench.servo.run(1);
        Check.same("SAMPLE is the P of the beginning", bench.servo.object(0x6064, 0), before);
        bench.servo.run(30);
        Check.same("never out of WINDOW", bench.servo.power(), 4);
    }

    private static void stageOn() {
        Bench bench = new Bench(5);
        bench.powerTo(3, 0);
        bench.set(0x607A, 0, 4, 10000);
        bench.control(15);
        Check.same("the tick that enables counts", bench.servo.run(10), 10);
        bench.control(2);
        Check.same("speed 100 with QUICK 50: 2 ticks", bench.servo.run(10), 2);
        Check.same("power", bench.servo.power(), 1);
        bench.powerTo(4, 0);
        bench.servo.run(9);
        bench.servo.bus(false);
        Check.same("reacting counts too", bench.servo.run(100), 2);
        Check.same("power", bench.servo.power(), 7);
        Check.same("faulty does not", bench.servo.run(100), 0);
    }
}
