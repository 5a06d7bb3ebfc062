/** Promises 6 (restart) and 2 (the network frame 129, which does the same). */
public final class RestartTest {
    public static void main(String[] args) {
        for (int way = 0; way < 2; way++) {
            values(way == 0);
            states(way == 0);
            counts(way == 0);
            outAnew(way == 0);
        }
        busAndLost();
        Check.end();
    }

    private static void powerAnew(Bench bench, boolean call) {
        if (call) {
            bench.servo.restart();
        } else {
            Check.same("129", bench.servo.receive(0, 2, 129), 1);
        }
    }

    private static void values(boolean call) {
        Bench bench = new Bench(5);
        bench.set(0x1017, 0, 2, 7);
        bench.set(0x607A, 0, 4, 9);
        bench.set(0x60FF, 0, 4, 9);
        bench.set(0x6081, 0, 4, 9);
        bench.set(0x6040, 0, 2, 6);
        bench.set(0x1600, 0, 1, 0);
        bench.set(0x1600, 1, 4, 5);
        bench.servo.tick(77);
        powerAnew(bench, call);
        Check.same("BEAT", bench.servo.object(0x1017, 0), 0);
        Check.same("TARGET", bench.servo.object(0x607A, 0), 0);
        Check.same("TARGET SPEED", bench.servo.object(0x60FF, 0), 0);
        Check.same("PROFILE", bench.servo.object(0x6081, 0), 100);
        Check.same("CONTROL", bench.servo.object(0x6040, 0), 0);
        Check.same("COUNT IN", bench.servo.object(0x1600, 0), 1);
        Check.same("1600:1", bench.servo.object(0x1600, 1), 0x60400010);
        Check.same("SAMPLE", bench.servo.object(0x6064, 0), 77);
        Check.same("position", bench.servo.position(), 77);
    }

    private static void states(boolean call) {
        Bench bench = new Bench(5);
        bench.set(0x607A, 0, 4, 10000);
        bench.powerTo(4, 0);
        bench.servo.run(5);
        bench.servo.tick(50);
        Check.same("speed", bench.servo.speed(), 70);
        bench.operate();
        powerAnew(bench, call);
        Check.same("network", bench.servo.network(), 127);
        Check.same("power", bench.servo.power(), 1);
        Check.same("speed", bench.servo.speed(), 0);
        Check.same("position", bench.servo.position(), 50);
        bench.expect("the mailbox was emptied", 0x705, 1, 0);
        bench.expectNothing("the mailbox was emptied");
        bench.servo.run(5);
        Check.same("power", bench.servo.power(), 1);
        bench.servo.bus(false);
        bench.servo.bus(true);
        Check.same("ERRORS", bench.servo.object(0x1001, 0), 0x11);
        powerAnew(bench, call);
        Check.same("ERRORS", bench.servo.object(0x1001, 0), 0);
        Check.same("power", bench.servo.power(), 1);
    }

    private static void counts(boolean call) {
        Bench bench = new Bench(5);
        bench.set(0x1017, 0, 2, 20);
        bench.set(0x1016, 1, 4, 9 << 16 | 5);
        bench.set(0x1800, 2, 1, 3);
        bench.set(0x1010, 1, 4, 0x65766173);
        bench.servo.run(23);
        bench.servo.receive(0x709, 1, 5);
        bench.operate();
        bench.servo.receive(0x80, 0, 0);
        bench.servo.receive(0x80, 0, 0);
        powerAnew(bench, call);
        Check.same("TYPE was kept", bench.servo.object(0x1800, 2), 3);
        bench.operate();
        bench.drain();
        bench.servo.receive(0x80, 0, 0);
        bench.servo.receive(0x80, 0, 0);
        bench.expectNothing("the count of SYNC began anew");
        bench.servo.receive(0x80, 0, 0);
        bench.expect("OUT", 0x185, 2, 0x240);
        bench.servo.run(19);
        Check.same("the watch is not armed", bench.servo.power(), 1);
        bench.expectNothing("the count of BEAT began anew");
        bench.servo.run(1);
        bench.expect("the heartbeat", 0x705, 1, 5);
        bench.servo.receive(0x709, 1, 5);
        bench.servo.run(4);
        Check.same("WATCH was kept", bench.servo.power(), 1);
        bench.servo.run(1);
        Check.same("WATCH was kept", bench.servo.power(), 7);
    }

    private static void outAnew(boolean call) {
        Bench bench = new Bench(5);
        bench.set(0x1800, 3, 2, 60000);
        bench.set(0x1010, 1, 4, 0x65766173);
        bench.servo.run(23);
        bench.operate();
        bench.drain();
        bench.servo.run(1);
        bench.expect("OUT", 0x185, 2, 0x240);
        powerAnew(bench, call);
        bench.servo.run(1);
        bench.expect("the start", 0x705, 1, 0);
        bench.expectNothing("PREPARING");
        bench.operate();
        bench.servo.run(1);
        bench.expect("OUT anew", 0x185, 2, 0x240);
    }

    private static void busAndLost() {
        Bench bench = new Bench(5);
        bench.servo.bus(false);
        bench.servo.restart();
        Check.same("the bus is on: power", bench.servo.power(), 1);
        bench.expect("the bus is on", 0x705, 1, 0);
        Check.same("lost stays", bench.servo.lost(), 1);
        Check.same("frames are taken", bench.servo.receive(0, 2, 1), 1);
        bench.servo.bus(false);
        Check.same("the bus was on", bench.servo.power(), 7);
        Check.same("lost", bench.servo.lost(), 2);
        Bench full = new Bench(5);
        for (int k = 0; k < 20; k++) {
            full.servo.receive(0x605, 8, 0x40);
        }
        Check.same("lost", full.servo.lost(), 9);
        full.servo.restart();
        full.expect("the mailbox was emptied before", 0x705, 1, 0);
        full.expectNothing("the mailbox was emptied before");
        Check.same("lost stays", full.servo.lost(), 9);
    }
}
