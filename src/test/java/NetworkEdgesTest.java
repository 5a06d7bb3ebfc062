/** The term NETWORK STATE and the heartbeats that come: each sentence with an edge has its own test. */
public final class NetworkEdgesTest {
    private static final int[][] COMMANDS = {{1, 5}, {2, 4}, {128, 127}, {129, 127}};

    public static void main(String[] args) {
        states();
        lengthTwo();
        addressed();
        eachByteZero();
        asRestart();
        anotherByteZero();
        channelServed();
        inOperatingAlone();
        syncOfAnyLength();
        heartbeatLength();
        heartbeatStates();
        heartbeatNode();
        heartbeatTime();
        heartbeatArms();
        Check.end();
    }

    private static Bench inNetwork(int command) {
        Bench bench = new Bench(5);
        Check.same("command " + command, bench.servo.receive(0, 2, command), 1);
        return bench;
    }

    private static void states() {
        Check.sentence("NETWORK STATE: PREPARING 127, OPERATING 5, STOPPED 4.");
        Check.same("at first", new BusServo(5).network(), 127);
        Check.same("OPERATING", inNetwork(1).servo.network(), 5);
        Check.same("STOPPED", inNetwork(2).servo.network(), 4);
        Check.same("PREPARING", inNetwork(128).servo.network(), 127);
    }

    private static void lengthTwo() {
        Check.sentence("Frames 0 of length 2");
        for (int length = 0; length <= 8; length++) {
            BusServo servo = new BusServo(5);
            Check.same("length " + length, servo.receive(0, length, 0x0501), length == 2 ? 1 : 0);
            Check.same("the state", servo.network(), length == 2 ? 5 : 127);
        }
    }

    private static void addressed() {
        Check.sentence("whose byte 1 is 0 or N");
        for (int node : new int[] {1, 5, 127}) {
            for (int address = 0; address < 256; address++) {
                BusServo servo = new BusServo(node);
                boolean taken = address == 0 || address == node;
                Check.same("byte 1 is " + address, servo.receive(0, 2, 1 | address << 8), taken ? 1 : 0);
                Check.same("the state", servo.network(), taken ? 5 : 127);
            }
        }
    }

    private static void eachByteZero() {
        Check.sentence("byte 0 is 1: OPERATING, 2: STOPPED, 128: PREPARING, 129: as restart()");
        for (int[] from : COMMANDS) {
            for (int[] to : COMMANDS) {
                Bench bench = inNetwork(from[0]);
                Check.same("from " + from[1] + " by " + to[0], bench.servo.receive(0, 2, to[0] | 0x0500), 1);
                Check.same("the state", bench.servo.network(), to[1]);
            }
        }
    }

    private static void asRestart() {
        Check.sentence("129: as restart()");
        for (int[] from : COMMANDS) {
            Bench bench = new Bench(5);
            bench.set(0x6081, 0, 4, 7);
            bench.send(0x40, 0x6081, 0, 0);
            bench.servo.receive(0, 2, from[0]);
            bench.servo.tick(12);
            Check.same("129", bench.servo.receive(0, 2, 129), 1);
            Check.same("PROFILE", bench.value(0x6081, 0), 100);
            Check.same("P", bench.servo.position(), 12);
            bench.expect("the start", 0x705, 1, 0);
            bench.expectNothing("after the start");
        }
        Bench prepared = new Bench(5);
        prepared.set(0x6081, 0, 4, 7);
        prepared.drain();
        prepared.prepare();
        Check.same("128 is none", prepared.value(0x6081, 0), 7);
        prepared.expectNothing("128 sends nothing");
    }

    private static void anotherByteZero() {
        Check.sentence("another byte 0 is not taken");
        for (int[] from : COMMANDS) {
            Bench bench = inNetwork(from[0]);
            bench.drain();
            for (int first = 0; first < 256; first++) {
                if (first != 1 && first != 2 && first != 128 && first != 129) {
                    Check.same("byte 0 is " + first, bench.servo.receive(0, 2, first), 0);
                }
            }
            Check.same("the state", bench.servo.network(), from[1]);
            bench.expectNothing("nothing is sent");
        }
    }

    private static void channelServed() {
        Check.sentence("The channel is served in PREPARING and OPERATING");
        for (int[] c : COMMANDS) {
            Bench bench = inNetwork(c[0]);
            bench.drain();
            boolean served = c[1] != 4;
            long frame = Bench.frame(0x23, 0x6081, 0, 5);
            Check.same("in " + c[1], bench.servo.receive(0x605, 8, frame), served ? 4 : 0);
            Check.same("in " + c[1] + ", command 0x80", bench.servo.receive(0x605, 8, 0x80), served ? 4 : 0);
            Check.same("in " + c[1] + ", another one", bench.servo.receive(0x605, 8, 0x81), served ? 4 : 0);
            Check.same("answers", bench.servo.waiting(), served ? 2 : 0);
            Check.same("PROFILE", bench.value(0x6081, 0), served ? 5 : 100);
        }
    }

    private static void inOperatingAlone() {
        Check.sentence("process frames and SYNC frames (0x80, any length, with any TYPE) are taken in OPERATING alone");
        for (int[] c : COMMANDS) {
            Bench bench = new Bench(5);
            bench.set(0x1800, 2, 1, 1);
            bench.drain();
            if (c[0] != 129) {
                bench.servo.receive(0, 2, c[0]);
            }
            boolean taken = c[1] == 5;
            Check.same("IN in " + c[1], bench.in(2, 6), taken ? 3 : 0);
            Check.same("CONTROL", bench.value(0x6040, 0), taken ? 6 : 0);
            Check.same("SYNC in " + c[1], bench.sync(), taken ? 2 : 0);
            Check.same("OUT", bench.servo.waiting(), taken ? 1 : 0);
        }
        Bench bench = new Bench(5);
        bench.set(0x1800, 2, 1, 2);
        bench.sync();
        bench.stop();
        bench.sync();
        bench.operate();
        bench.drain();
        bench.sync();
        bench.expectNothing("one that is not taken is not counted");
        bench.sync();
        bench.expect("OUT", 0x185, 2, 0x240);
    }

    private static void syncOfAnyLength() {
        Check.sentence("SYNC frames (0x80, any length, with any TYPE)");
        for (int type : new int[] {0, 1, 240, 241, 255}) {
            Bench bench = new Bench(5);
            bench.set(0x1800, 2, 1, type);
            bench.operate();
            bench.drain();
            for (int length = 0; length <= 8; length++) {
                Check.same("TYPE " + type + ", length " + length, bench.servo.receive(0x80, length, -1), 2);
            }
            Check.same("OUT with TYPE " + type, bench.servo.waiting(), type == 1 ? 9 : 0);
        }
        Bench other = new Bench(5);
        other.operate();
        Check.same("0x81 is none", other.servo.receive(0x81, 0, 0), 0);
        Check.same("0x7F is none", other.servo.receive(0x7F, 0, 0), 0);
    }

    private static void heartbeatLength() {
        Check.sentence("A frame 0x700 + m of length 1 is taken");
        Bench bench = new Bench(5);
        bench.set(0x1016, 1, 4, 9 << 16 | 3);
        for (int length = 0; length <= 8; length++) {
            Check.same("length " + length, bench.servo.receive(0x709, length, 5), length == 1 ? 5 : 0);
        }
        bench.servo.run(2);
        Check.same("length 2", bench.servo.receive(0x709, 2, 5), 0);
        bench.servo.run(1);
        Check.same("one that is not taken changes nothing", bench.servo.power(), 7);
    }

    private static void heartbeatStates() {
        Check.sentence("in every network state");
        for (int[] c : COMMANDS) {
            Bench bench = new Bench(5);
            if (c[0] != 129) {
                bench.servo.receive(0, 2, c[0]);
            }
            bench.prepare();
            bench.set(0x1016, 1, 4, 9 << 16 | 3);
            bench.servo.receive(0, 2, c[0] == 129 ? 128 : c[0]);
            Check.same("in " + bench.servo.network(), bench.servo.receive(0x709, 1, 5), 5);
            bench.servo.run(3);
            Check.same("armed in " + bench.servo.network(), bench.servo.power(), 7);
        }
    }

    private static void heartbeatNode() {
        Check.sentence("when m is the node of WATCH, 1 .. 127");
        for (int node : new int[] {1, 2, 126, 127}) {
            Bench bench = new Bench(5);
            bench.set(0x1016, 1, 4, node << 16 | 1);
            for (int m : new int[] {0, 1, 2, 5, 126, 127, 128, 255}) {
                Check.same("node " + node + ", m " + m, bench.servo.receive(0x700 + m, 1, 5), m == node ? 5 : 0);
            }
            bench.servo.run(1);
            Check.same("armed", bench.servo.power(), 7);
        }
        Bench none = new Bench(5);
        none.set(0x1016, 1, 4, 5);
        Check.same("the node 0 is none", none.servo.receive(0x700, 1, 5), 0);
        none.servo.run(20);
        Check.same("not armed", none.servo.power(), 1);
    }

    private static void heartbeatTime() {
        Check.sentence("and its time is not 0 (else it is not)");
        Bench bench = new Bench(5);
        Check.same("WATCH is 0", bench.servo.receive(0x709, 1, 5), 0);
        bench.set(0x1016, 1, 4, 9 << 16);
        Check.same("time 0", bench.servo.receive(0x709, 1, 5), 0);
        bench.servo.run(5);
        Check.same("not armed", bench.servo.power(), 1);
        bench.set(0x1016, 1, 4, 9 << 16 | 1);
        Check.same("time 1", bench.servo.receive(0x709, 1, 5), 5);
        bench.set(0x1016, 1, 4, 9 << 16 | 0xFFFF);
        Check.same("time 65535", bench.servo.receive(0x709, 1, 5), 5);
    }

    private static void heartbeatArms() {
        Check.sentence("the watch is armed, its count 0");
        Bench bench = new Bench(5);
        bench.set(0x1016, 1, 4, 9 << 16 | 3);
        bench.servo.run(10);
        Check.same("not armed before the first", bench.servo.power(), 1);
        for (int k = 0; k < 4; k++) {
            Check.same("heartbeat", bench.servo.receive(0x709, 1, 5), 5);
            bench.servo.run(2);
            Check.same("each makes the count 0", bench.servo.power(), 1);
        }
        bench.servo.run(1);
        Check.same("3 ticks after the last", bench.servo.power(), 7);
    }
}
