/** Promises 7 to 12: nextIdentifier, nextLength, nextData, take, waiting and lost. */
public final class MailboxTest {
    public static void main(String[] args) {
        order();
        equals();
        room();
        empty();
        Check.end();
    }

    /** A heartbeat (0x705), an answer (0x585), an OUT (0x185) and an emergency (0x85), sent in this order. */
    private static void order() {
        Bench bench = new Bench(5);
        bench.set(0x6065, 0, 4, 0);
        bench.powerTo(4, 0);
        bench.set(0x1017, 0, 2, 100);
        bench.drain();
        bench.servo.run(99);
        bench.operate();
        bench.servo.run(1);
        bench.servo.receive(0x605, 8, Bench.frame(0x40, 0x1017, 0, 0));
        Check.same("waiting", bench.servo.waiting(), 3);
        Check.same("OUT is next", bench.servo.nextIdentifier(), 0x185);
        bench.servo.tick(1);
        Check.same("waiting", bench.servo.waiting(), 5);
        bench.expect("the emergency", 0x85, 8, 0x218611);
        Check.same("waiting", bench.servo.waiting(), 4);
        bench.expect("the first OUT", 0x185, 2, 0x627);
        bench.expect("the second OUT", 0x185, 2, 0x208);
        bench.expect("the answer", 0x585, 8, Bench.frame(0x4B, 0x1017, 0, 100));
        bench.expect("the heartbeat", 0x705, 1, 5);
        bench.expectNothing("at the end");
        Check.same("lost", bench.servo.lost(), 0);
    }

    private static void equals() {
        Bench bench = new Bench(5);
        for (int value = 1; value <= 5; value++) {
            bench.servo.receive(0x605, 8, Bench.frame(0x23, 0x6081, 0, value));
            bench.servo.receive(0x605, 8, Bench.frame(0x40, 0x6081, 0, 0));
        }
        for (int value = 1; value <= 5; value++) {
            bench.expect("write " + value, 0x585, 8, Bench.frame(0x60, 0x6081, 0, 0));
            Check.same("asking changes nothing", bench.servo.nextData(), bench.servo.nextData());
            bench.expect("read " + value, 0x585, 8, Bench.frame(0x43, 0x6081, 0, value));
        }
        bench.expect("the start", 0x705, 1, 0);
        bench.expectNothing("at the end");
    }

    private static void room() {
        Bench bench = new Bench(5);
        for (int k = 1; k <= 11; k++) {
            bench.servo.receive(0x605, 8, Bench.frame(0x23, 0x6081, 0, k));
            Check.same("waiting", bench.servo.waiting(), k + 1);
            Check.same("lost", bench.servo.lost(), 0);
        }
        for (int k = 1; k <= 3; k++) {
            bench.servo.receive(0x605, 8, Bench.frame(0x40, 0x6081, 0, 0));
            Check.same("waiting", bench.servo.waiting(), 12);
            Check.same("lost", bench.servo.lost(), k);
        }
        Check.holds("take", bench.servo.take());
        bench.servo.receive(0x605, 8, Bench.frame(0x40, 0x6081, 0, 0));
        Check.same("there was room", bench.servo.waiting(), 12);
        Check.same("lost", bench.servo.lost(), 3);
        for (int k = 0; k < 10; k++) {
            bench.expect("write", 0x585, 8, Bench.frame(0x60, 0x6081, 0, 0));
        }
        bench.expect("read", 0x585, 8, Bench.frame(0x43, 0x6081, 0, 11));
        bench.expect("the start", 0x705, 1, 0);
        bench.expectNothing("at the end");
        Check.same("lost", bench.servo.lost(), 3);
        // a frame of a lesser identifier is lost too: the ones that wait stay
        Bench full = new Bench(5);
        full.operate();
        for (int k = 0; k < 11; k++) {
            full.servo.receive(0x605, 8, Bench.frame(0x40, 0x6081, 0, 0));
        }
        full.servo.tick(1);
        Check.same("OUT is lost", full.servo.lost(), 1);
        Check.same("the answers stay", full.servo.nextIdentifier(), 0x585);
    }

    private static void empty() {
        BusServo servo = new BusServo(5);
        Check.holds("take", servo.take());
        for (int k = 0; k < 3; k++) {
            Check.fails("take", servo.take());
            Check.same("waiting", servo.waiting(), 0);
            Check.same("identifier", servo.nextIdentifier(), -1);
            Check.same("length", servo.nextLength(), -1);
            Check.same("data", servo.nextData(), 0);
        }
    }
}
