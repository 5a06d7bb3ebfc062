/** Promise 13: object; what each object's START is stands in ChannelTest. */
public final class ObjectTest {
    public static void main(String[] args) {
        none();
        writeOnly();
        live();
        everywhere();
        Check.end();
    }

    private static void none() {
        BusServo servo = new BusServo(5);
        int[][] places = {
            {0x6081, 1}, {0x6081, -1}, {0x6081, 256}, {0x6080, 256}, {0x6082, -256}, {0x16081, 0}, {-0x6081, 0},
            {0x6081 - 65536, 0}, {0x1800, 0}, {0x1800, 1}, {0x1800, 4}, {0x1600, 4}, {0x1A00, 4}, {0x607D, 0},
            {0x607D, 3}, {0x607C, 257}, {0, 0}, {-1, -1}, {0x1016, 0}, {0x1017, 1}, {0x608100, 0},
            {0x01006081, 0}, {Integer.MAX_VALUE, Integer.MAX_VALUE}, {Integer.MIN_VALUE, Integer.MIN_VALUE},
            {0x6081, Integer.MIN_VALUE}, {Integer.MIN_VALUE + 0x6081, 0}, {0x7FFF6081, 0}, {65536, 0},
        };
        for (int[] place : places) {
            Check.same("object(" + place[0] + ", " + place[1] + ")", servo.object(place[0], place[1]), 0);
        }
        Check.same("object(0x6081, 0)", servo.object(0x6081, 0), 100);
    }

    private static void writeOnly() {
        Bench bench = new Bench(5);
        bench.set(0x1010, 1, 4, 0x65766173);
        Check.same("SAVE", bench.servo.object(0x1010, 1), 0);
        bench.servo.run(23);
        bench.set(0x1011, 1, 4, 0x64616F6C);
        Check.same("RESTORE", bench.servo.object(0x1011, 1), 0);
    }

    private static void live() {
        Bench bench = new Bench(5);
        bench.servo.tick(-5);
        Check.same("SAMPLE", bench.servo.object(0x6064, 0), -5);
        bench.set(0x607A, 0, 4, -77777);
        Check.same("TARGET", bench.servo.object(0x607A, 0), -77777);
        bench.powerTo(4, 0);
        Check.same("SPEED", bench.servo.object(0x606B, 0), -10);
        Check.same("STATUS", bench.servo.object(0x6041, 0), 0x27);
        bench.operate();
        Check.same("STATUS", bench.servo.object(0x6041, 0), 0x227);
        bench.servo.bus(false);
        Check.same("STATUS", bench.servo.object(0x6041, 0), 0x20F);
        Check.same("ERRORS", bench.servo.object(0x1001, 0), 0x11);
    }

    private static void everywhere() {
        Bench bench = new Bench(5);
        bench.stop();
        Check.same("in STOPPED", bench.servo.object(0x6081, 0), 100);
        bench.servo.bus(false);
        Check.same("with the bus off", bench.servo.object(0x6081, 0), 100);
    }
}
