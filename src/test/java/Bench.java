/** A servo on a bench: what a master on the bus would do with it, in words that tests can read. */
final class Bench {
    static final int NO_ANSWER = -1;

    final BusServo servo;
    final int node;

    Bench(int node) {
        this.node = node;
        this.servo = new BusServo(node);
    }

    /**
     * A drive with node 5 and TARGET 100000 in this power state, in 4 with a SPEED of 200, in 5 of 150, in
     * 6 of 200; bit 7 of CONTROL was 0 at the tick before, if there was one.
     */
    static Bench inState(int state) {
        Bench bench = new Bench(5);
        bench.set(0x607A, 0, 4, 100000);
        if (state == 7) {
            bench.cutBus();
            return bench;
        }
        if (state < 4) {
            if (state > 1) {
                bench.powerTo(state, 0);
            }
            return bench;
        }
        bench.set(0x6081, 0, 4, 1000);
        bench.powerTo(4, 0);
        bench.servo.run(19);
        Check.same("speed", bench.servo.speed(), 200);
        if (state == 5) {
            bench.control(2);
            bench.servo.run(1);
        }
        if (state == 6) {
            bench.cutBus();
        }
        Check.same("state", bench.servo.power(), state);
        return bench;
    }

    static long frame(int command, int index, int sub, int value) {
        return (command & 0xFFL) | (long) index << 8 | (long) sub << 24 | (long) value << 32;
    }

    static int writing(int bytes) {
        return new int[] {0, 0x2F, 0x2B, 0x27, 0x23}[bytes];
    }

    void drain() {
        for (int k = 0; k < 12 && servo.take(); k++) {
            continue;
        }
    }

    /** Empties the mailbox, sends a frame to the channel and gives the bytes of the answer. */
    long ask(int command, int index, int sub, int value) {
        drain();
        if (servo.receive(0x600 + node, 8, frame(command, index, sub, value)) != 4
                || servo.waiting() != 1 || servo.nextIdentifier() != 0x580 + node || servo.nextLength() != 8) {
            return NO_ANSWER;
        }
        long answer = servo.nextData();
        servo.take();
        return answer;
    }

    /** 0 if the write was done, else the code. */
    int code(int index, int sub, int bytes, int value) {
        long answer = ask(writing(bytes), index, sub, value);
        if ((answer & 0xFFFFFF00L) != frame(0, index, sub, 0)) {
            return NO_ANSWER;
        }
        if ((answer & 0xFF) == 0x60) {
            return answer >>> 32 == 0 ? 0 : NO_ANSWER;
        }
        return (answer & 0xFF) == 0x80 ? (int) (answer >>> 32) : NO_ANSWER;
    }

    /** A write that has to be done. */
    void set(int index, int sub, int bytes, int value) {
        String what = "set " + Integer.toHexString(index) + ":" + sub + " to " + value;
        Check.same(what, code(index, sub, bytes, value), 0);
    }

    void control(int value) {
        set(0x6040, 0, 2, value);
    }

    /** The bus goes off and on again, which is a FAULT. */
    void cutBus() {
        servo.bus(false);
        servo.bus(true);
    }

    /** Any frame to the channel, its answer left in the mailbox. */
    void send(int command, int index, int sub, int value) {
        Check.same("taken by the channel", servo.receive(0x600 + node, 8, frame(command, index, sub, value)), 4);
    }

    /** Fills the mailbox up to so many frames with answers. */
    void fillTo(int frames) {
        for (int k = servo.waiting(); k < frames; k++) {
            send(0x40, 0x1001, 0, 0);
        }
        Check.same("waiting", servo.waiting(), frames);
    }

    /** Gives an index (1600 or 1A00) these entries and makes its COUNT their number. */
    void map(int index, int... entries) {
        set(index, 0, 1, 0);
        for (int k = 0; k < entries.length; k++) {
            set(index, k + 1, 4, entries[k]);
        }
        set(index, 0, 1, entries.length);
    }

    int in(int length, long data) {
        return servo.receive(0x200 + node, length, data);
    }

    int sync() {
        return servo.receive(0x80, 0, 0);
    }

    /** Arms the watch over node 9 with this time. */
    void watch(int time) {
        set(0x1016, 1, 4, 9 << 16 | time);
        Check.same("heartbeat", servo.receive(0x709, 1, 5), 5);
    }

    int value(int index, int sub) {
        return servo.object(index, sub);
    }

    int status() {
        return servo.object(0x6041, 0);
    }

    void operate() {
        Check.same("to OPERATING", servo.receive(0, 2, 1), 1);
    }

    void stop() {
        Check.same("to STOPPED", servo.receive(0, 2, 2), 1);
    }

    void prepare() {
        Check.same("to PREPARING", servo.receive(0, 2, 128), 1);
    }

    /** Brings the drive from DISABLED to the state 2, 3 or 4; each tick has the sample. */
    void powerTo(int state, int sample) {
        int[] controls = {6, 7, 15};
        for (int k = 0; k + 2 <= state; k++) {
            control(controls[k]);
            servo.tick(sample);
        }
        Check.same("power state", servo.power(), state);
    }

    /** What the NEXT frame is, which then leaves the mailbox. */
    void expect(String what, int identifier, int length, long data) {
        Check.same(what + ", identifier", servo.nextIdentifier(), identifier);
        Check.same(what + ", length", servo.nextLength(), length);
        Check.same(what + ", data", servo.nextData(), data);
        Check.holds(what + ", take", servo.take());
    }

    void expectNothing(String what) {
        Check.same(what + ", waiting", servo.waiting(), 0);
        Check.same(what + ", identifier", servo.nextIdentifier(), -1);
        Check.same(what + ", length", servo.nextLength(), -1);
        Check.same(what + ", data", servo.nextData(), 0);
        Check.fails(what + ", take", servo.take());
    }
}
