/** Promise 1: a new object. */
public final class NewObjectTest {
    public static void main(String[] args) {
        nodeNumbers();
        freshState();
        Check.same("REFUSED", BusServo.REFUSED, -1);
        Check.end();
    }

    private static void nodeNumbers() {
        int[][] cases = {
            {1, 1}, {2, 2}, {64, 64}, {126, 126}, {127, 127}, {128, 1}, {0, 1}, {-1, 1}, {255, 1}, {129, 1},
            {Integer.MAX_VALUE, 1}, {Integer.MIN_VALUE, 1},
        };
        for (int[] c : cases) {
            BusServo servo = new BusServo(c[0]);
            Check.same("identifier of node " + c[0], servo.nextIdentifier(), 0x700 + c[1]);
            Check.same("channel of node " + c[0], servo.receive(0x600 + c[1], 8, 0x40), 4);
        }
    }

    private static void freshState() {
        Bench bench = new Bench(17);
        BusServo servo = bench.servo;
        Check.same("waiting", servo.waiting(), 1);
        bench.expect("the frame of the start", 0x711, 1, 0);
        bench.expectNothing("after it");
        Check.same("network", servo.network(), 127);
        Check.same("power", servo.power(), 1);
        Check.same("speed", servo.speed(), 0);
        Check.same("position", servo.position(), 0);
        Check.same("lost", servo.lost(), 0);
        Check.same("ERRORS", servo.object(0x1001, 0), 0);
        Check.same("STATUS", bench.status(), 0x40);
        for (int bank = 0; bank < 2; bank++) {
            for (int place = 0; place < 22; place++) {
                Check.same("word " + bank + ", " + place, servo.word(bank, place), 0);
            }
        }
        servo.bus(true);
        Check.same("the bus is on already", servo.power(), 1);
    }
}
