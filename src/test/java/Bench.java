/** A servo on a bench: what a master on the bus would do with it, in words that tests can read. */
final class Bench {
    static final int NO_ANSWER = -1;

    final BusServo servo;
    final int node;

    Bench(int node) {
        this.node = node;
        this.servo = new BusServo(node);
    }

    static long frame(int command, int index, int sub, int value) {
        return (command & 0xFFL) | (long) index << 8 | (long) sub << 24 | (long) value << 32;
    }

    static int writing(int bytes) {
        return new int[] {0, 0x2F, 0x2B, 0x27, 0x23}[bytes];
    }

    void drain() {
        for (int k = 0; k < 12 && servo.take(); k++) {
            continue;
        }
    }

    /** Empties the mailbox, sends a frame to the channel and gives the bytes of the answer. */
    long ask(int command, int index, int sub, int value) {
        drain();
        if (servo.receive(0x600 + node, 8, frame(command, index, sub, value)) != 4
                || servo.waiting() != 1 || servo.nextIdentifier() != 0x580 + node || servo.nextLength() != 8) {
            return NO_ANSWER;
        }
        long answer = servo.nextData();
        servo.take();
        return answer;
    }

    /** 0 if the write was done, else the code. */
    int code(int index, int sub, int bytes, int value) {
        long answer = ask(writing(bytes), index, sub, value);
        if ((answer & 0xFFFFFF00L) != frame(0, index, sub, 0)) {
            return NO_ANSWER;
        }
        if ((answer & 0xFF) == 0x60) {
            return answer >>> 32 == 0 ? 0 : NO_ANSWER;
        }
        return (answer & 0xFF) == 0x80 ? (int) (answer >>> 32) : NO_ANSWER;
    }

    /** A write that has to be done. */
    void set(int index, int sub, int bytes, int value) {
        String what = "set " + Integer.toHexString(index) + ":" + sub + " to " + value;
        Check.same(what, code(index, sub, bytes, value), 0);
    }

    void control(int value) {
        set(0x6040, 0, 2, value);
    }

    int status() {
        return servo.object(0x6041, 0);
    }

    void operate() {
        Check.same("to OPERATING", servo.receive(0, 2, 1), 1);
    }

    void stop() {
        Check.same("to STOPPED", servo.receive(0, 2, 2), 1);
    }

    void prepare() {
        Check.same("to PREPARING", servo.receive(0, 2, 128), 1);
    }

    /** Brings the drive from DISABLED to the state 2, 3 or 4; each tick has the sample. */
    void powerTo(int state, int sample) {
        int[] controls = {6, 7, 15};
        for (int k = 0; k + 2 <= state; k++) {
            control(controls[k]);
            servo.tick(sample);
        }
        Check.same("power state", servo.power(), state);
    }

    /** What the NEXT frame is, which then leaves the mailbox. */
    void expect(String what, int identifier, int length, long data) {
        Check.same(what + ", identifier", servo.nextIdentifier(), identifier);
        Check.same(what + ", length", servo.nextLength(), length);
        Check.same(what + ", data", servo.nextData(), data);
        Check.holds(what + ", take", servo.take());
    }

    void expectNothing(String what) {
        Check.same(what + ", waiting", servo.waiting(), 0);
        Check.same(what + ", identifier", servo.nextIdentifier(), -1);
        Check.same(what + ", length", servo.nextLength(), -1);
        Check.same(what + ", data", servo.nextData(), 0);
        Check.fails(what + ", take", servo.take());
    }
}
