/** Promise 3: the steps of a tick: the sample, BEAT, the watch, WINDOW and OUT. */
public final class TickTest {
    public static void main(String[] args) {
        samples();
        beats();
        beatCounts();
        watch();
        watchDisarmed();
        window();
        emergencies();
        outFirst();
        outInhibited();
        outEvery();
        outAfterEntering();
        outBySync();
        outBySyncThenByTick();
        outLost();
        orderOfSteps();
        countsApart();
        enabledFromTheSample();
        Check.end();
    }

    private static void samples() {
        Bench bench = new Bench(5);
        BusServo servo = bench.servo;
        bench.control(6);
        for (int sample : new int[] {-1000001, 1000001, Integer.MIN_VALUE, Integer.MAX_VALUE}) {
            Check.fails("tick(" + sample + ")", servo.tick(sample));
            Check.same("power", servo.power(), 1);
            Check.same("position", servo.position(), 0);
            Check.same("SAMPLE", servo.object(0x6064, 0), 0);
        }
        for (int sample : new int[] {-1000000, 1000000, 0, 17}) {
            Check.holds("tick(" + sample + ")", servo.tick(sample));
            Check.same("power", servo.power(), 2);
            Check.same("position", servo.position(), sample);
            Check.same("SAMPLE", servo.object(0x6064, 0), sample);
        }
        bench.powerTo(4, 0);
        servo.tick(33);
        Check.same("SAMPLE with the stage on", servo.object(0x6064, 0), 33);
        Check.same("position with the stage on", servo.position(), 0);
        bench.control(7);
        servo.tick(44);
        Check.same("position with the stage off again", servo.position(), 44);
    }

    private static void beats() {
        Bench bench = new Bench(5);
        bench.set(0x1017, 0, 2, 3);
        int[] states = {127, 5, 4};
        bench.set(0x1A00, 0, 1, 0);
        for (int state : states) {
            bench.servo.receive(0, 2, state == 127 ? 128 : state == 5 ? 1 : 2);
            bench.servo.run(2);
            bench.expectNothing("before the third tick");
            bench.servo.run(1);
            bench.expect("the heartbeat", 0x705, 1, state);
        }
        bench.servo.run(18);
        Check.same("six of them", bench.servo.waiting(), 6);
    }

    private static void beatCounts() {
        Bench bench = new Bench(5);
        bench.servo.run(50);
        bench.set(0x1017, 0, 2, 5);
        bench.servo.run(4);
        bench.expectNothing("the count began with the write");
        bench.set(0x1017, 0, 2, 5);
        bench.servo.run(4);
        bench.expectNothing("the same value written begins it too");
        Check.same("a refused write", bench.code(0x1017, 0, 1, 5), 0x06070010);
        bench.servo.run(1);
        bench.expect("a refused write does not", 0x705, 1, 127);
        bench.set(0x1017, 0, 2, 1);
        bench.servo.run(7);
        Check.same("one each tick", bench.servo.waiting(), 7);
        bench.set(0x1017, 0, 2, 0);
        bench.servo.run(7);
        bench.expectNothing("BEAT 0");
    }

    private static void watch() {
        Bench bench = new Bench(5);
        BusServo servo = bench.servo;
        bench.set(0x1016, 1, 4, 9 << 16 | 3);
        servo.run(10);
        Check.same("not armed", servo.power(), 1);
        for (int k = 0; k < 3; k++) {
            Check.same("heartbeat", servo.receive(0x709, 1, 5), 5);
            servo.run(2);
            Check.same("in time", servo.power(), 1);
        }
        bench.drain();
        servo.run(1);
        Check.same("too late", servo.power(), 7);
        Check.same("ERRORS", servo.object(0x1001, 0), 0x11);
        bench.expect("the emergency", 0x85, 8, 0x118130);
        servo.run(10);
        bench.expectNothing("disarmed");
        bench.control(0x80);
        servo.run(10);
        Check.same("no fault again", servo.power(), 1);
        servo.receive(0x709, 1, 5);
        servo.run(3);
        Check.same("armed again", servo.power(), 7);
        bench.set(0x1016, 1, 4, 9 << 16 | 1);
        bench.control(0);
        servo.run(1);
        bench.control(0x80);
        servo.run(1);
        servo.receive(0x709, 1, 5);
        servo.run(1);
        Check.same("the least time", servo.power(), 7);
    }

    private static void watchDisarmed() {
        Bench bench = new Bench(5);
        BusServo servo = bench.servo;
        bench.set(0x1016, 1, 4, 9 << 16 | 3);
        servo.receive(0x709, 1, 5);
        bench.set(0x1016, 1, 4, 9 << 16 | 3);
        servo.run(10);
        Check.same("writing disarms", servo.power(), 1);
        servo.receive(0x709, 1, 5);
        Check.same("refused", bench.code(0x1016, 1, 4, -1), 0x06090032);
        servo.run(3);
        Check.same("a refused write does not", servo.power(), 7);
    }

    private static void window() {
        for (int sign = -1; sign <= 1; sign += 2) {
            Bench bench = new Bench(5);
            BusServo servo = bench.servo;
            bench.set(0x6065, 0, 4, 20);
            bench.powerTo(4, 0);
            bench.drain();
            servo.tick(sign * 20);
            Check.same("as far as WINDOW", servo.power(), 4);
            servo.tick(sign * 21);
            Check.same("farther, standing", servo.power(), 7);
            Check.same("ERRORS", servo.object(0x1001, 0), 0x21);
            bench.expect("the emergency", 0x85, 8, 0x218611);
            bench.expectNothing("only one");
        }
        Bench bench = new Bench(5);
        bench.set(0x6065, 0, 4, 0);
        bench.powerTo(3, 0);
        bench.servo.tick(5000);
        Check.same("not with the stage off", bench.servo.power(), 3);
        bench.control(15);
        bench.servo.tick(9000);
        Check.same("nor in the tick that enables", bench.servo.power(), 4);
        int place = bench.servo.position();
        bench.servo.tick(place);
        Check.same("exactly there", bench.servo.power(), 4);
        bench.servo.tick(place);
        Check.same("P has moved on", bench.servo.power(), 6);
        bench.servo.tick(place);
        Check.same("no second fault", bench.servo.object(0x1001, 0), 0x21);
        Bench far = new Bench(5);
        far.powerTo(4, 1000000);
        far.servo.tick(-1000000);
        Check.same("the farthest", far.servo.object(0x1001, 0), 0x21);
    }

    private static void emergencies() {
        Bench bench = new Bench(5);
        bench.set(0x1016, 1, 4, 9 << 16 | 1);
        bench.stop();
        bench.drain();
        bench.servo.receive(0x709, 1, 5);
        bench.servo.run(1);
        Check.same("fault in STOPPED", bench.servo.power(), 7);
        Check.same("ERRORS in STOPPED", bench.servo.object(0x1001, 0), 0x11);
        bench.expectNothing("no emergency in STOPPED");
        Check.same("nor a lost one", bench.servo.lost(), 0);
        bench.operate();
        bench.servo.receive(0x205, 2, 0x80);
        bench.stop();
        bench.servo.run(1);
        Check.same("reset in STOPPED", bench.servo.power(), 1);
        bench.expectNothing("no emergency in STOPPED");
        bench.operate();
        bench.servo.receive(0x709, 1, 5);
        bench.servo.run(1);
        bench.expect("fault in OPERATING", 0x85, 8, 0x118130);
        bench.control(0);
        bench.servo.run(1);
        bench.control(0x80);
        bench.servo.run(1);
        bench.expect("reset in OPERATING", 0x85, 8, 0);
        Check.same("ERRORS", bench.servo.object(0x1001, 0), 0);
    }

    private static Bench sampleOut(int inhibit, int every) {
        Bench bench = new Bench(5);
        bench.set(0x1A00, 0, 1, 0);
        bench.set(0x1A00, 1, 4, 0x60640020);
        bench.set(0x1A00, 0, 1, 1);
        bench.set(0x1800, 3, 2, inhibit);
        bench.set(0x1800, 5, 2, every);
        return bench;
    }

    private static void outFirst() {
        Bench bench = sampleOut(0, 0);
        bench.servo.tick(1);
        bench.expectNothing("in PREPARING");
        bench.stop();
        bench.servo.tick(2);
        bench.expectNothing("in STOPPED");
        bench.operate();
        bench.expectNothing("not before a tick");
        bench.servo.tick(2);
        bench.expect("the first", 0x185, 4, 2);
        bench.servo.tick(2);
        bench.expectNothing("the same bytes");
        bench.servo.tick(3);
        bench.expect("other bytes", 0x185, 4, 3);
        for (int type = 241; type <= 255; type++) {
            bench.set(0x1800, 2, 1, type);
            bench.servo.tick(-type);
            bench.expect("TYPE " + type, 0x185, 4, -type & 0xFFFFFFFFL);
        }
        for (int type : new int[] {0, 1, 240}) {
            bench.set(0x1800, 2, 1, type);
            bench.servo.tick(type);
            bench.expectNothing("TYPE " + type);
        }
    }

    private static void outInhibited() {
        Bench bench = sampleOut(3, 0);
        bench.operate();
        bench.drain();
        bench.servo.tick(1);
        bench.expect("the first is not held", 0x185, 4, 1);
        bench.servo.tick(2);
        bench.servo.tick(3);
        bench.expectNothing("held");
        bench.servo.tick(4);
        bench.expect("3 ticks later", 0x185, 4, 4);
        bench.servo.tick(5);
        bench.servo.tick(4);
        bench.servo.tick(4);
        bench.expectNothing("as it was sent");
        bench.servo.tick(6);
        bench.expect("4 ticks later", 0x185, 4, 6);
        bench.set(0x1800, 3, 2, 0);
        bench.servo.tick(7);
        bench.expect("INHIBIT is gone", 0x185, 4, 7);
    }

    private static void outEvery() {
        Bench bench = sampleOut(0, 4);
        bench.operate();
        bench.drain();
        bench.servo.tick(9);
        bench.expect("the first", 0x185, 4, 9);
        bench.servo.run(3);
        bench.expectNothing("not before EVERY");
        bench.servo.run(1);
        bench.expect("after EVERY", 0x185, 4, 9);
        bench.servo.run(2);
        bench.servo.tick(8);
        bench.expect("other bytes", 0x185, 4, 8);
        bench.servo.run(3);
        bench.expectNothing("counted from the last one");
        bench.servo.run(1);
        bench.expect("again", 0x185, 4, 8);
        bench.set(0x1800, 3, 2, 6);
        bench.servo.run(5);
        bench.expectNothing("INHIBIT is stronger");
        bench.servo.run(1);
        bench.expect("6 ticks later", 0x185, 4, 8);
        bench.set(0x1800, 5, 2, 0);
        bench.servo.run(50);
        bench.expectNothing("EVERY 0");
        bench.set(0x1800, 5, 2, 50);
        bench.servo.run(1);
        bench.expect("it was long ago", 0x185, 4, 8);
    }

    private static void outAfterEntering() {
        Bench bench = sampleOut(100, 0);
        bench.operate();
        bench.drain();
        bench.servo.tick(9);
        bench.expect("the first", 0x185, 4, 9);
        bench.operate();
        bench.servo.tick(10);
        bench.expectNothing("OPERATING was not entered again");
        bench.stop();
        bench.operate();
        bench.servo.tick(10);
        bench.expect("entered from STOPPED", 0x185, 4, 10);
        bench.prepare();
        bench.operate();
        bench.servo.tick(10);
        bench.expect("entered from PREPARING", 0x185, 4, 10);
    }

    private static void outBySync() {
        for (int type : new int[] {1, 2, 5, 240}) {
            Bench bench = sampleOut(100, 1);
            bench.set(0x1800, 2, 1, type);
            bench.operate();
            bench.drain();
            bench.servo.tick(7);
            // an object has 512 calls, too few for 240 SYNC frames twice over
            int rounds = type == 240 ? 1 : 2;
            for (int round = 0; round < rounds; round++) {
                for (int k = 1; k < type && k < 200; k++) {
                    bench.servo.receive(0x80, 0, 0);
                }
                Check.same("before TYPE " + type, bench.servo.waiting(), 0);
                for (int k = 200; k <= type; k++) {
                    bench.servo.receive(0x80, 0, 0);
                }
                if (type < 200) {
                    bench.servo.receive(0x80, 0, 0);
                }
                bench.expect("with TYPE " + type, 0x185, 4, 7);
            }
        }
        Bench bench = sampleOut(0, 0);
        bench.set(0x1800, 2, 1, 3);
        bench.operate();
        bench.servo.receive(0x80, 0, 0);
        bench.servo.receive(0x80, 0, 0);
        bench.set(0x1800, 2, 1, 3);
        bench.servo.receive(0x80, 0, 0);
        bench.servo.receive(0x80, 0, 0);
        bench.expectNothing("writing TYPE begins the count");
        bench.stop();
        bench.servo.receive(0x80, 0, 0);
        bench.operate();
        bench.expectNothing("none is counted in STOPPED");
        bench.servo.receive(0x80, 0, 0);
        bench.expect("leaving OPERATING keeps the count", 0x185, 4, 0);
        for (int type : new int[] {0, 241, 255}) {
            Bench other = sampleOut(0, 0);
            other.set(0x1800, 2, 1, type);
            other.operate();
            other.drain();
            for (int k = 0; k < 260; k++) {
                other.servo.receive(0x80, 0, 0);
            }
            other.expectNothing("SYNC with TYPE " + type);
        }
    }

    private static void outBySyncThenByTick() {
        Bench bench = sampleOut(2, 0);
        bench.set(0x1800, 2, 1, 1);
        bench.operate();
        bench.servo.tick(7);
        bench.drain();
        bench.servo.receive(0x80, 0, 0);
        bench.expect("by SYNC", 0x185, 4, 7);
        bench.set(0x1800, 2, 1, 255);
        bench.servo.tick(8);
        bench.expectNothing("1 tick after the one by SYNC: held");
        bench.servo.tick(7);
        bench.expectNothing("the bytes are those that SYNC sent");
        bench.servo.tick(9);
        bench.expect("other bytes", 0x185, 4, 9);
        bench.set(0x1800, 2, 1, 1);
        bench.servo.tick(10);
        bench.servo.tick(10);
        bench.servo.receive(0x80, 0, 0);
        bench.expect("by SYNC", 0x185, 4, 10);
        bench.set(0x1800, 2, 1, 255);
        bench.set(0x1800, 3, 2, 0);
        bench.set(0x1800, 5, 2, 2);
        bench.servo.tick(10);
        bench.expectNothing("EVERY counts from the one by SYNC");
        bench.servo.tick(10);
        bench.expect("EVERY", 0x185, 4, 10);
    }

    private static void outLost() {
        Bench bench = sampleOut(0, 0);
        bench.operate();
        bench.drain();
        bench.servo.bus(false);
        Check.same("the emergency", bench.servo.lost(), 1);
        bench.servo.tick(5);
        Check.same("a lost OUT", bench.servo.lost(), 2);
        bench.servo.bus(true);
        bench.servo.tick(5);
        bench.expectNothing("a lost one counts as sent");
        bench.servo.tick(6);
        bench.expect("other bytes", 0x185, 4, 6);
    }

    private static void orderOfSteps() {
        // the fault of the watch and the RESET of the same tick: the order sees the new state
        Bench bench = new Bench(5);
        bench.set(0x1016, 1, 4, 9 << 16 | 1);
        bench.servo.receive(0x709, 1, 5);
        bench.control(0x80);
        bench.drain();
        bench.servo.run(1);
        Check.same("fault and reset in one tick", bench.servo.power(), 1);
        bench.expect("the fault", 0x85, 8, 0x118130);
        bench.expect("the reset", 0x85, 8, 0);
        // the watch comes before WINDOW, so its code is the one that counts
        Bench both = new Bench(5);
        both.set(0x6065, 0, 4, 0);
        both.set(0x1016, 1, 4, 9 << 16 | 4);
        both.servo.receive(0x709, 1, 5);
        both.powerTo(4, 0);
        both.drain();
        both.servo.tick(50);
        Check.same("the first fault", both.servo.object(0x1001, 0), 0x11);
        both.expect("its emergency", 0x85, 8, 0x118130);
        both.expectNothing("the second is none");
        // OUT shows the state after the order and the trajectory
        Bench late = new Bench(5);
        late.powerTo(3, 0);
        late.operate();
        late.control(15);
        late.drain();
        late.servo.tick(0);
        late.expect("OUT", 0x185, 2, 0x627);
    }

    /** WATCH, BEAT and TYPE each touch their own count alone. */
    private static void countsApart() {
        Bench bench = new Bench(5);
        bench.set(0x1A00, 0, 1, 0);
        bench.set(0x1017, 0, 2, 5);
        bench.servo.run(4);
        bench.set(0x1016, 1, 4, 9 << 16 | 3);
        bench.set(0x1800, 2, 1, 3);
        bench.servo.run(1);
        bench.expect("the count for BEAT went on", 0x705, 1, 127);
        bench.servo.receive(0x709, 1, 5);
        bench.servo.run(2);
        bench.set(0x1017, 0, 2, 0);
        bench.set(0x1800, 2, 1, 3);
        bench.servo.run(1);
        Check.same("the watch stayed armed", bench.servo.power(), 7);
        Bench synced = new Bench(5);
        synced.set(0x1800, 2, 1, 3);
        synced.operate();
        synced.servo.receive(0x80, 0, 0);
        synced.servo.receive(0x80, 0, 0);
        synced.set(0x1017, 0, 2, 500);
        synced.set(0x1016, 1, 4, 7);
        synced.set(0x1800, 3, 2, 1);
        synced.set(0x1800, 5, 2, 1);
        synced.servo.receive(0x80, 0, 0);
        synced.expect("the count of SYNC went on", 0x185, 2, 0x240);
        synced.set(0x1800, 2, 1, 255);
        synced.servo.run(3);
        Check.same("EVERY 1", synced.servo.waiting(), 3);
    }

    /** With the stage off P becomes the sample before the order, so the trajectory begins there. */
    private static void enabledFromTheSample() {
        Bench bench = new Bench(5);
        bench.powerTo(3, 0);
        bench.control(15);
        bench.servo.tick(500);
        Check.same("power", bench.servo.power(), 4);
        Check.same("position", bench.servo.position(), 490);
        Bench there = new Bench(5);
        there.set(0x607A, 0, 4, 500);
        there.powerTo(3, 0);
        there.control(15);
        there.servo.tick(500);
        Check.same("already there", there.servo.position(), 500);
        Check.same("STATUS", there.status(), 0x427);
    }
}
