/** Promise 5: bus; and 12 for the frames that are lost while it is off. */
public final class BusTest {
    public static void main(String[] args) {
        off();
        again();
        whileOff();
        faultyAlready();
        stopped();
        Check.end();
    }

    private static void off() {
        Bench bench = new Bench(5);
        bench.servo.receive(0x605, 8, 0x40);
        Check.same("waiting", bench.servo.waiting(), 2);
        bench.servo.bus(false);
        bench.expectNothing("the mailbox is emptied");
        Check.same("only the emergency is lost", bench.servo.lost(), 1);
        Check.same("power", bench.servo.power(), 7);
        Check.same("ERRORS", bench.servo.object(0x1001, 0), 0x11);
        Check.same("network", bench.servo.network(), 127);
        bench.servo.bus(true);
        bench.expectNothing("on again");
        Check.same("still faulty", bench.servo.power(), 7);
        Check.same("lost", bench.servo.lost(), 1);
        for (int state = 2; state <= 4; state++) {
            Bench powered = new Bench(5);
            powered.powerTo(state, 0);
            powered.servo.bus(false);
            Check.same("bus off in " + state, powered.servo.power(), state == 4 ? 6 : 7);
        }
    }

    private static void again() {
        Bench bench = new Bench(5);
        bench.servo.bus(true);
        Check.same("on already: waiting", bench.servo.waiting(), 1);
        Check.same("on already: power", bench.servo.power(), 1);
        bench.servo.bus(false);
        bench.servo.bus(true);
        bench.control(0x80);
        bench.servo.tick(0);
        Check.same("reset", bench.servo.power(), 1);
        bench.servo.bus(false);
        Check.same("off again", bench.servo.power(), 7);
        Check.same("lost", bench.servo.lost(), 2);
        Bench twice = new Bench(5);
        twice.control(0x80);
        twice.servo.bus(false);
        twice.servo.tick(0);
        Check.same("reset while it is off", twice.servo.power(), 1);
        Check.same("both emergencies are lost", twice.servo.lost(), 2);
        twice.servo.bus(false);
        Check.same("off already: no fault", twice.servo.power(), 1);
        Check.same("off already: lost", twice.servo.lost(), 2);
    }

    private static void whileOff() {
        Bench bench = new Bench(5);
        bench.set(0x1017, 0, 2, 2);
        bench.servo.bus(false);
        bench.servo.run(10);
        bench.expectNothing("while it is off");
        Check.same("an emergency and five heartbeats", bench.servo.lost(), 6);
        bench.servo.bus(true);
        bench.servo.run(2);
        bench.expect("on again", 0x705, 1, 127);
        Check.same("lost", bench.servo.lost(), 6);
    }

    private static void faultyAlready() {
        Bench bench = new Bench(5);
        bench.set(0x6065, 0, 4, 0);
        bench.powerTo(4, 0);
        bench.servo.tick(1);
        Check.same("ERRORS", bench.servo.object(0x1001, 0), 0x21);
        bench.servo.bus(false);
        bench.expectNothing("emptied all the same");
        Check.same("ERRORS stay", bench.servo.object(0x1001, 0), 0x21);
        Check.same("no emergency to lose", bench.servo.lost(), 0);
        Check.same("power", bench.servo.power(), 7);
    }

    private static void stopped() {
        Bench bench = new Bench(5);
        bench.stop();
        bench.servo.bus(false);
        Check.same("a fault in STOPPED", bench.servo.power(), 7);
        Check.same("its emergency is not sent, so not lost", bench.servo.lost(), 0);
    }
}
