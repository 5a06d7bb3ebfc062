/** The term A TICK: each sentence of it that names an edge, and each step's place in the order. */
public final class TickEdgesTest {
    public static void main(String[] args) {
        latestSample();
        stageOffTakesTheSample();
        saveGoesOn();
        beatZero();
        beatReached();
        beatBytes();
        watchNotArmed();
        watchTime();
        watchDisarmed();
        windowEdges();
        windowInStateFour();
        orderByTheState();
        stageOff();
        enabled();
        slowedByQuick();
        outAtTheEnd();
        stepsOneAndFive();
        stepsThreeAndFour();
        stepsFourAndFive();
        stepsFourAndSix();
        stepsFiveAndEight();
        Check.end();
    }

    private static void latestSample() {
        Check.sentence("(1) The sample is the latest one");
        Bench bench = Bench.inState(4);
        bench.servo.tick(2050);
        Check.same("with the stage on", bench.value(0x6064, 0), 2050);
        Bench off = new Bench(5);
        off.servo.tick(-7);
        Check.same("with the stage off", off.value(0x6064, 0), -7);
    }

    private static void stageOffTakesTheSample() {
        Check.sentence("with the stage off P becomes it");
        for (int state = 1; state <= 7; state++) {
            Bench bench = Bench.inState(state);
            boolean on = state >= 4 && state <= 6;
            bench.control(state == 2 ? 6 : state == 3 ? 7 : state == 4 ? 15 : 2);
            int before = bench.servo.position();
            bench.servo.tick(1234);
            Check.same("in " + state, bench.servo.position(), on ? before + bench.servo.speed() : 1234);
        }
        Bench enabling = Bench.inState(3);
        enabling.set(0x607A, 0, 4, 500);
        enabling.control(15);
        enabling.servo.tick(500);
        Check.same("before the order: P is at the aim", enabling.servo.position(), 500);
        Check.same("STATUS", enabling.status(), 0x427);
    }

    private static void saveGoesOn() {
        Check.sentence("(2) A save that is under way goes on.");
        for (int state : new int[] {1, 4, 6, 7}) {
            Bench bench = Bench.inState(state);
            bench.set(0x1010, 1, 4, 0x65766173);
            bench.servo.tick(1000001);
            bench.servo.run(101);
            bench.stop();
            bench.servo.run(22);
            Check.same("22 ticks", bench.servo.word(0, 0), 0);
            Check.same("the last word", bench.servo.word(0, 21), 50);
            bench.servo.run(1);
            Check.same("23 ticks", bench.servo.word(0, 0), 1);
        }
        Bench none = new Bench(5);
        none.servo.run(50);
        Check.same("none is under way", none.servo.word(0, 0) | none.servo.word(0, 3), 0);
    }

    private static void beatZero() {
        Check.sentence("if BEAT > 0 and the count is BEAT or more");
        Bench bench = new Bench(5);
        bench.drain();
        bench.servo.run(100);
        bench.expectNothing("BEAT 0");
        bench.set(0x1017, 0, 2, 1);
        bench.servo.run(5);
        Check.same("BEAT 1: each tick", bench.servo.waiting(), 5);
        bench.set(0x1017, 0, 2, 65535);
        bench.servo.run(100);
        bench.expectNothing("BEAT 65535");
        bench.set(0x1017, 0, 2, 0);
        bench.servo.run(5);
        bench.expectNothing("BEAT 0 again");
    }

    private static void beatReached() {
        Check.sentence("(3) One more tick is counted for BEAT");
        Bench bench = new Bench(5);
        bench.set(0x1017, 0, 2, 150);
        for (int round = 0; round < 3; round++) {
            bench.servo.run(100);
            bench.servo.run(49);
            bench.expectNothing("149 ticks");
            bench.servo.tick(1000001);
            bench.servo.run(0);
            bench.expectNothing("a refused tick is none");
            bench.servo.tick(0);
            bench.expect("150 ticks, and the count becomes 0", 0x705, 1, 127);
        }
    }

    private static void beatBytes() {
        Check.sentence("it becomes 0 and a frame 0x700 + N of length 1 is sent, its byte the network state");
        Bench bench = new Bench(127);
        bench.set(0x1A00, 0, 1, 0);
        bench.set(0x1017, 0, 2, 2);
        bench.servo.run(2);
        bench.expect("PREPARING", 0x77F, 1, 127);
        bench.operate();
        bench.servo.run(1);
        bench.expectNothing("the count was 0");
        bench.servo.run(1);
        bench.expect("OPERATING", 0x77F, 1, 5);
        bench.stop();
        bench.servo.run(2);
        bench.expect("STOPPED", 0x77F, 1, 4);
    }

    private static void watchNotArmed() {
        Check.sentence("(4) If the watch is armed, one more tick is counted for it");
        Bench bench = new Bench(5);
        bench.set(0x1016, 1, 4, 9 << 16 | 3);
        bench.servo.run(50);
        Check.same("not armed", bench.servo.power(), 1);
        bench.servo.receive(0x709, 1, 5);
        bench.servo.run(2);
        Check.same("none of these ticks was counted", bench.servo.power(), 1);
        bench.servo.run(1);
        Check.same("armed", bench.servo.power(), 7);
    }

    private static void watchTime() {
        Check.sentence("with as many as its time it is disarmed: FAULT 0x8130");
        for (int time : new int[] {1, 2, 3, 100}) {
            Bench bench = new Bench(5);
            bench.watch(time);
            bench.drain();
            bench.servo.run(time - 1);
            Check.same("1 less than " + time, bench.servo.power(), 1);
            bench.expectNothing("1 less than " + time);
            bench.servo.run(1);
            Check.same("time " + time, bench.servo.power(), 7);
            bench.expect("time " + time, 0x85, 8, 0x118130);
        }
    }

    private static void watchDisarmed() {
        Check.sentence("it is disarmed");
        Bench bench = new Bench(5);
        bench.watch(2);
        bench.servo.run(2);
        Check.same("FAULT", bench.servo.power(), 7);
        bench.control(0x80);
        bench.servo.run(50);
        Check.same("no second FAULT", bench.servo.power(), 1);
        bench.servo.receive(0x709, 1, 5);
        bench.servo.run(2);
        Check.same("armed by the next heartbeat", bench.servo.power(), 7);
        Bench faulty = Bench.inState(7);
        faulty.watch(2);
        faulty.servo.run(2);
        faulty.control(0x80);
        faulty.servo.run(20);
        Check.same("disarmed in 7 too, though a FAULT is nothing there", faulty.servo.power(), 1);
    }

    private static void windowEdges() {
        Check.sentence("when the sample and P are more than WINDOW apart: FAULT 0x8611");
        for (int window : new int[] {0, 1, 100000}) {
            for (int sign = -1; sign <= 1; sign += 2) {
                Bench bench = new Bench(5);
                bench.set(0x6065, 0, 4, window);
                bench.powerTo(4, 0);
                bench.drain();
                bench.servo.tick(sign * window);
                Check.same("as far as WINDOW", bench.servo.power(), 4);
                bench.expectNothing("as far as WINDOW");
                bench.servo.tick(sign * (window + 1));
                Check.same("1 more", bench.servo.power(), 7);
                bench.expect("1 more", 0x85, 8, 0x218611);
            }
        }
        Bench far = new Bench(5);
        far.powerTo(4, 1000000);
        far.servo.tick(-1000000);
        Check.same("the farthest", far.value(0x1001, 0), 0x21);
    }

    private static void windowInStateFour() {
        Check.sentence("(5) In state 4");
        for (int state : new int[] {1, 2, 3, 5}) {
            Bench bench = Bench.inState(state);
            bench.control(state == 2 ? 6 : state == 3 ? 7 : 2);
            bench.servo.tick(1000000);
            Check.same("in " + state, bench.servo.power(), state);
            Check.same("ERRORS", bench.value(0x1001, 0), 0);
        }
        Bench enabling = new Bench(5);
        enabling.set(0x6065, 0, 4, 0);
        enabling.powerTo(3, 0);
        enabling.control(15);
        enabling.servo.tick(1000000);
        Check.same("nor in the tick that enables", enabling.servo.power(), 4);
    }

    private static void orderByTheState() {
        Check.sentence("(6) The order of CONTROL, by the state as it is now.");
        Bench bench = new Bench(5);
        bench.control(15);
        bench.servo.run(5);
        Check.same("RUN in 1", bench.servo.power(), 1);
        bench.control(6);
        bench.servo.run(1);
        Check.same("SHUT", bench.servo.power(), 2);
        bench.control(15);
        bench.servo.run(1);
        Check.same("one step a tick", bench.servo.power(), 3);
        bench.servo.run(1);
        Check.same("one step a tick", bench.servo.power(), 4);
        bench.control(2);
        bench.servo.run(1);
        Check.same("5 does not end in the same tick, though SPEED is 0", bench.servo.power(), 5);
        bench.servo.run(1);
        Check.same("but in the next", bench.servo.power(), 1);
    }

    private static void stageOff() {
        Check.sentence("stage off: SPEED 0, P the sample");
        for (int control : new int[] {0, 6, 7}) {
            Bench bench = Bench.inState(4);
            bench.control(control);
            bench.servo.tick(-33);
            Check.same("SPEED", bench.servo.speed(), 0);
            Check.same("P", bench.servo.position(), -33);
        }
        Bench stopping = Bench.inState(5);
        stopping.control(0);
        stopping.servo.tick(77);
        Check.same("OFF in 5: SPEED", stopping.servo.speed(), 0);
        Check.same("OFF in 5: P", stopping.servo.position(), 77);
    }

    private static void enabled() {
        Check.sentence("4: SPEED is worked out and P grows by it");
        Bench bench = Bench.inState(3);
        bench.control(15);
        bench.servo.tick(100);
        Check.same("in the tick that enables", bench.servo.speed(), 10);
        Check.same("P grows from the sample", bench.servo.position(), 110);
        bench.servo.tick(100);
        Check.same("in the next", bench.servo.speed(), 20);
        Check.same("P grows from P", bench.servo.position(), 130);
        Bench back = new Bench(5);
        back.powerTo(4, 100);
        Check.same("a negative SPEED", back.servo.speed(), -10);
        Check.same("P", back.servo.position(), 90);
    }

    private static void slowedByQuick() {
        Check.sentence("5 and 6: SPEED comes nearer to 0 by QUICK (it does not pass 0) and P grows by it.");
        for (int sign = -1; sign <= 1; sign += 2) {
            for (int state = 5; state <= 6; state++) {
                Bench bench = new Bench(5);
                bench.set(0x6085, 0, 4, 30);
                bench.set(0x607A, 0, 4, sign * 100000);
                bench.powerTo(4, 0);
                bench.servo.run(6);
                Check.same("SPEED", bench.servo.speed(), sign * 70);
                int place = bench.servo.position();
                if (state == 5) {
                    bench.control(2);
                } else {
                    bench.cutBus();
                }
                int[] speeds = {40, 10, 0};
                for (int speed : speeds) {
                    bench.servo.run(1);
                    place += sign * speed;
                    Check.same("SPEED in " + state, bench.servo.speed(), sign * speed);
                    Check.same("P in " + state, bench.servo.position(), place);
                    Check.same("the state", bench.servo.power(), state);
                }
            }
        }
    }

    private static void outAtTheEnd() {
        Check.sentence("(8) OUT, as said above.");
        Bench bench = new Bench(5);
        bench.map(0x1A00, 0x60410010, 0x606B0020);
        bench.set(0x607A, 0, 4, 1000);
        bench.powerTo(3, 0);
        bench.control(15);
        bench.operate();
        bench.drain();
        bench.servo.tick(0);
        bench.expect("the state and SPEED of this tick", 0x185, 6, 10L << 16 | 0x227);
        bench.servo.tick(0);
        bench.expect("and of the next", 0x185, 6, 20L << 16 | 0x227);
    }

    private static void stepsOneAndFive() {
        Check.sentence("(7) The trajectory, by the state as it is now");
        Bench bench = new Bench(5);
        bench.set(0x6065, 0, 4, 5);
        bench.set(0x607A, 0, 4, 1000);
        bench.powerTo(4, 0);
        Check.same("P", bench.servo.position(), 10);
        bench.servo.tick(15);
        Check.same("5 apart before P grows, though 15 after it", bench.servo.power(), 4);
        Check.same("P", bench.servo.position(), 30);
        bench.control(2);
        bench.servo.tick(30);
        Check.same("QUICK in this tick", bench.servo.power(), 5);
        Check.same("so QUICK slows in this tick", bench.servo.speed(), 0);
        Check.same("P", bench.servo.position(), 30);
    }

    private static void stepsThreeAndFour() {
        Check.sentence("A TICK with a sample: (1) The sample is the latest one; with the stage off P becomes it. (2) A save that is under way goes on. (3) One more tick is counted for BEAT");
        Bench bench = new Bench(5);
        bench.watch(1);
        bench.set(0x1017, 0, 2, 1);
        bench.fillTo(11);
        bench.servo.run(1);
        Check.same("a frame is lost", bench.servo.lost(), 1);
        Check.same("the EMERGENCY, for the heartbeat was before it", bench.servo.nextIdentifier(), 0x585);
        Check.same("waiting", bench.servo.waiting(), 12);
    }

    private static void stepsFourAndFive() {
        Check.sentence("FAULT 0x8130. (5) In state 4");
        Bench bench = new Bench(5);
        bench.set(0x6065, 0, 4, 0);
        bench.powerTo(4, 0);
        bench.watch(1);
        bench.drain();
        bench.servo.tick(1);
        Check.same("the watch is before WINDOW", bench.value(0x1001, 0), 0x11);
        bench.expect("one EMERGENCY", 0x85, 8, 0x118130);
        bench.expectNothing("one EMERGENCY");
    }

    private static void stepsFourAndSix() {
        Check.sentence("The order of CONTROL, by the state as it is now");
        Bench bench = new Bench(5);
        bench.watch(1);
        bench.control(0x80);
        bench.drain();
        bench.servo.run(1);
        Check.same("FAULT and RESET in one tick", bench.servo.power(), 1);
        Check.same("ERRORS", bench.value(0x1001, 0), 0);
        bench.expect("the EMERGENCY of the FAULT", 0x85, 8, 0x118130);
        bench.expect("the EMERGENCY of RESET", 0x85, 8, 0);
        bench.expectNothing("at the end");
        Bench off = new Bench(5);
        off.powerTo(4, 0);
        off.watch(1);
        off.control(0);
        off.servo.run(1);
        Check.same("OFF comes too late: 4, then 6, then 7", off.servo.power(), 7);
        Bench moving = Bench.inState(4);
        moving.watch(1);
        moving.control(0);
        moving.servo.run(1);
        Check.same("6, with the SPEED of before", moving.servo.power(), 6);
        Check.same("slowed in this tick", moving.servo.speed(), 150);
    }

    private static void stepsFiveAndEight() {
        Check.sentence("(8) OUT");
        Bench bench = new Bench(5);
        bench.powerTo(4, 0);
        bench.operate();
        bench.drain();
        bench.fillTo(11);
        bench.servo.tick(1000000);
        Check.same("a frame is lost", bench.servo.lost(), 1);
        bench.expect("the EMERGENCY was before OUT", 0x85, 8, 0x218611);
        Check.same("OUT was the lost one", bench.servo.nextIdentifier(), 0x585);
    }
}
