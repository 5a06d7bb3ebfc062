/** Promise 2 (receive) and 14 (network): which frames are taken, and as what. */
public final class ReceiveTest {
    public static void main(String[] args) {
        refused();
        networkFrames();
        networkFramesNotTaken();
        syncFrames();
        inFrames();
        channelFrames();
        heartbeats();
        others();
        busOff();
        bytesBeyondTheLength();
        Check.end();
    }

    private static void refused() {
        BusServo servo = new BusServo(5);
        int[] identifiers = {-1, 2048, 0x605 + 2048, Integer.MIN_VALUE, Integer.MAX_VALUE};
        for (int identifier : identifiers) {
            Check.same("identifier " + identifier, servo.receive(identifier, 8, 0x40), BusServo.REFUSED);
        }
        int[] lengths = {-1, 9, 16, Integer.MIN_VALUE, Integer.MAX_VALUE};
        for (int length : lengths) {
            Check.same("length " + length, servo.receive(0x605, length, 0x40), BusServo.REFUSED);
            Check.same("SYNC of length " + length, servo.receive(0x80, length, 0), BusServo.REFUSED);
        }
        Check.same("nothing was sent", servo.waiting(), 1);
        Check.same("the greatest identifier", servo.receive(2047, 8, 0), 0);
        Check.same("the least length", servo.receive(2047, 0, 0), 0);
    }

    private static void networkFrames() {
        int[][] rows = {{1, 5}, {2, 4}, {128, 127}, {129, 127}};
        for (int[] from : rows) {
            for (int[] to : rows) {
                for (int address : new int[] {0, 5}) {
                    BusServo servo = new BusServo(5);
                    Check.same("first frame", servo.receive(0, 2, from[0]), 1);
                    Check.same("first state", servo.network(), from[1]);
                    Check.same("second frame", servo.receive(0, 2, to[0] | address << 8), 1);
                    Check.same("second state", servo.network(), to[1]);
                }
            }
        }
        Bench bench = new Bench(5);
        bench.set(0x6081, 0, 4, 77);
        bench.operate();
        Check.same("129", bench.servo.receive(0, 2, 129), 1);
        Check.same("129 is as restart()", bench.servo.object(0x6081, 0), 100);
        bench.expect("129", 0x705, 1, 0);
        bench.expectNothing("129");
    }

    private static void networkFramesNotTaken() {
        BusServo servo = new BusServo(5);
        servo.take();
        for (int first = 0; first < 256; first++) {
            boolean known = first == 1 || first == 2 || first == 128 || first == 129;
            if (!known) {
                Check.same("byte 0 is " + first, servo.receive(0, 2, first), 0);
            }
        }
        for (int address : new int[] {1, 4, 6, 127, 128, 133, 255}) {
            Check.same("byte 1 is " + address, servo.receive(0, 2, 1 | address << 8), 0);
        }
        for (int length : new int[] {0, 1, 3, 4, 8}) {
            Check.same("length " + length, servo.receive(0, length, 1), 0);
        }
        Check.same("the state is the old one", servo.network(), 127);
        Check.same("nothing was sent", servo.waiting(), 0);
    }

    private static void syncFrames() {
        for (int type : new int[] {0, 1, 3, 240, 241, 255}) {
            Bench bench = new Bench(9);
            bench.set(0x1800, 2, 1, type);
            Check.same("SYNC in PREPARING", bench.servo.receive(0x80, 0, 0), 0);
            bench.stop();
            Check.same("SYNC in STOPPED", bench.servo.receive(0x80, 0, 0), 0);
            bench.operate();
            for (int length = 0; length <= 8; length++) {
                Check.same("SYNC of length " + length + ", TYPE " + type,
                        bench.servo.receive(0x80, length, -1), 2);
            }
        }
    }

    private static void inFrames() {
        Bench bench = new Bench(127);
        Check.same("IN in PREPARING", bench.servo.receive(0x27F, 2, 6), 0);
        bench.stop();
        Check.same("IN in STOPPED", bench.servo.receive(0x27F, 2, 6), 0);
        Check.same("CONTROL", bench.servo.object(0x6040, 0), 0);
        bench.operate();
        Check.same("too short", bench.servo.receive(0x27F, 1, 6), 0);
        Check.same("without bytes", bench.servo.receive(0x27F, 0, 6), 0);
        Check.same("CONTROL after short ones", bench.servo.object(0x6040, 0), 0);
        Check.same("of another node", bench.servo.receive(0x27E, 2, 6), 0);
        Check.same("as long as it must be", bench.servo.receive(0x27F, 2, 0xA0006), 3);
        Check.same("CONTROL", bench.servo.object(0x6040, 0), 6);
        Check.same("longer", bench.servo.receive(0x27F, 8, 0x7FFF), 3);
        Check.same("CONTROL after the longer one", bench.servo.object(0x6040, 0), 0x7FFF);
        bench.prepare();
        bench.set(0x1600, 0, 1, 0);
        bench.operate();
        Check.same("COUNT IN is 0", bench.servo.receive(0x27F, 8, 6), 0);
        Check.same("COUNT IN is 0, without bytes", bench.servo.receive(0x27F, 0, 6), 0);
    }

    private static void channelFrames() {
        Bench bench = new Bench(3);
        BusServo servo = bench.servo;
        servo.take();
        for (int length = 0; length < 8; length++) {
            Check.same("length " + length, servo.receive(0x603, length, Bench.frame(0x40, 0x1001, 0, 0)), 0);
        }
        Check.same("of another node", servo.receive(0x604, 8, Bench.frame(0x40, 0x1001, 0, 0)), 0);
        Check.same("nothing was sent", servo.waiting(), 0);
        Check.same("command 0x80", servo.receive(0x603, 8, Bench.frame(0x80, 0x6081, 0, 5)), 4);
        Check.same("command 0x80 sends nothing", servo.waiting(), 0);
        Check.same("in PREPARING", servo.receive(0x603, 8, Bench.frame(0x40, 0x1001, 0, 0)), 4);
        bench.operate();
        Check.same("in OPERATING", servo.receive(0x603, 8, Bench.frame(0x40, 0x1001, 0, 0)), 4);
        bench.stop();
        Check.same("in STOPPED", servo.receive(0x603, 8, Bench.frame(0x23, 0x6081, 0, 5)), 0);
        Check.same("0x80 in STOPPED", servo.receive(0x603, 8, Bench.frame(0x80, 0x6081, 0, 5)), 0);
        Check.same("not written in STOPPED", servo.object(0x6081, 0), 100);
        Check.same("two were answered", servo.waiting(), 2);
    }

    private static void heartbeats() {
        Bench bench = new Bench(3);
        BusServo servo = bench.servo;
        Check.same("no watch", servo.receive(0x700, 1, 5), 0);
        bench.set(0x1016, 1, 4, 5);
        Check.same("node 0", servo.receive(0x700, 1, 5), 0);
        bench.set(0x1016, 1, 4, 7 << 16);
        Check.same("time 0", servo.receive(0x707, 1, 5), 0);
        bench.set(0x1016, 1, 4, 7 << 16 | 4);
        for (int other : new int[] {0x700, 0x706, 0x708, 0x787, 0x7FF, 0x703}) {
            Check.same("another node " + other, servo.receive(other, 1, 5), 0);
        }
        for (int length : new int[] {0, 2, 8}) {
            Check.same("length " + length, servo.receive(0x707, length, 5), 0);
        }
        servo.run(20);
        Check.same("none of these armed the watch", servo.power(), 1);
        Check.same("in PREPARING", servo.receive(0x707, 1, 5), 5);
        bench.operate();
        Check.same("in OPERATING", servo.receive(0x707, 1, 0), 5);
        bench.stop();
        Check.same("in STOPPED", servo.receive(0x707, 1, 255), 5);
        servo.run(3);
        Check.same("before the time", servo.power(), 1);
        servo.run(1);
        Check.same("with the time", servo.power(), 7);
        Check.same("taken with a fault too", servo.receive(0x707, 1, 5), 5);
        bench.prepare();
        bench.set(0x1016, 1, 4, 127 << 16 | 65535);
        Check.same("the greatest WATCH", servo.receive(0x77F, 1, 5), 5);
        bench.set(0x1016, 1, 4, 1 << 16 | 1);
        Check.same("the least WATCH", servo.receive(0x701, 1, 5), 5);
        bench.set(0x1016, 1, 4, 3 << 16 | 1);
        Check.same("the own node", servo.receive(0x703, 1, 5), 5);
    }

    private static void others() {
        for (int identifier = 1; identifier < 2048; identifier++) {
            boolean known = identifier == 0x80 || identifier == 0x205 || identifier == 0x605 || identifier == 0x707;
            if (!known) {
                Bench bench = new Bench(5);
                bench.set(0x1016, 1, 4, 7 << 16 | 4);
                bench.operate();
                for (int length = 0; length <= 8; length++) {
                    String what = "identifier " + identifier + ", length " + length;
                    Check.same(what, bench.servo.receive(identifier, length, 0x0540), 0);
                }
                bench.expectNothing("identifier " + identifier);
            }
        }
    }

    private static void busOff() {
        Bench bench = new Bench(5);
        BusServo servo = bench.servo;
        bench.set(0x1016, 1, 4, 7 << 16 | 4);
        bench.operate();
        servo.bus(false);
        Check.same("network frame", servo.receive(0, 2, 2), 0);
        Check.same("SYNC", servo.receive(0x80, 0, 0), 0);
        Check.same("IN", servo.receive(0x205, 8, 6), 0);
        Check.same("channel", servo.receive(0x605, 8, Bench.frame(0x40, 0x1001, 0, 0)), 0);
        Check.same("0x80", servo.receive(0x605, 8, 0x80), 0);
        Check.same("heartbeat", servo.receive(0x707, 1, 5), 0);
        Check.same("refused all the same", servo.receive(2048, 1, 5), BusServo.REFUSED);
        Check.same("refused all the same", servo.receive(0, 9, 5), BusServo.REFUSED);
        Check.same("network", servo.network(), 5);
        Check.same("CONTROL", servo.object(0x6040, 0), 0);
        Check.same("only the emergency is lost", servo.lost(), 1);
        servo.bus(true);
        Check.same("on again", servo.receive(0, 2, 2), 1);
    }

    private static void bytesBeyondTheLength() {
        BusServo servo = new BusServo(5);
        Check.same("network frame", servo.receive(0, 2, 0x7777777777770001L), 1);
        Check.same("network", servo.network(), 5);
        Check.same("IN", servo.receive(0x205, 2, 0xFFFFFFFFFFFF0006L), 3);
        Check.same("CONTROL", servo.object(0x6040, 0), 6);
        Check.same("network frame", servo.receive(0, 2, 0xFFFFFFFFFFFF0002L), 1);
        Check.same("network", servo.network(), 4);
    }
}
