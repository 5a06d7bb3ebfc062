/** The term PROCESS FRAMES: each sentence of it that names an edge, with a test of its own. */
public final class ProcessEdgesTest {
    private static final int CONTROL = 0x60400010;
    private static final int MODE = 0x60600008;
    private static final int SAMPLE = 0x60640020;
    private static final int TARGET = 0x607A0020;
    private static final int PROFILE = 0x60810020;
    private static final int TARGET_SPEED = 0x60FF0020;

    public static void main(String[] args) {
        enoughBytes();
        inTheirOrder();
        outOfRange();
        modeOfTwo();
        countInOfZero();
        lessBytes();
        outBytesAndLength();
        countOutOfZero();
        syncCounts();
        syncReachesType();
        syncTypes();
        tickTypes();
        dueAndNotHeld();
        dueAtFirst();
        dueByOtherBytes();
        dueByEvery();
        heldByInhibit();
        heldOnlySinceEntered();
        ticksAgo();
        lostCountsAsSent();
        Check.end();
    }

    private static void enoughBytes() {
        Check.sentence("IN: 0x200 + N; with a COUNT IN of 1 or more and at least the bytes of all its entries");
        int[][] mappings = {{MODE}, {CONTROL}, {TARGET}, {MODE, TARGET}, {TARGET, PROFILE}, {CONTROL, CONTROL, TARGET}};
        int[] bytes = {1, 2, 4, 5, 8, 8};
        for (int k = 0; k < mappings.length; k++) {
            Bench bench = new Bench(5);
            bench.map(0x1600, mappings[k]);
            bench.operate();
            for (int length = 0; length <= 8; length++) {
                String what = bytes[k] + " bytes mapped, length " + length;
                Check.same(what, bench.in(length, 0x0101_01010101_0101L), length >= bytes[k] ? 3 : 0);
            }
        }
    }

    private static void inTheirOrder() {
        Check.sentence("the mapped objects, in their order, take their bytes as values");
        Bench bench = new Bench(5);
        bench.map(0x1600, MODE, TARGET_SPEED, CONTROL);
        bench.operate();
        bench.in(7, 0x55_FF0F_FFFFFC18_03L);
        Check.same("MODE", bench.value(0x6060, 0), 3);
        Check.same("TARGET SPEED", bench.value(0x60FF, 0), -1000);
        Check.same("CONTROL", bench.value(0x6040, 0), 0xFF0F);
        bench.prepare();
        bench.map(0x1600, CONTROL, MODE, TARGET_SPEED);
        bench.operate();
        bench.in(7, 0x000003E8_01_0006L);
        Check.same("MODE", bench.value(0x6060, 0), 1);
        Check.same("TARGET SPEED", bench.value(0x60FF, 0), 1000);
        Check.same("CONTROL", bench.value(0x6040, 0), 6);
        bench.prepare();
        bench.map(0x1600, TARGET, TARGET);
        bench.operate();
        bench.in(8, 0x00000007_00000005L);
        Check.same("one that is mapped twice", bench.value(0x607A, 0), 7);
    }

    private static void outOfRange() {
        Check.sentence("a value out of range (or a MODE of 2) leaves its object as it is");
        leaves(TARGET, 0x607A, 100000, -100000);
        leaves(PROFILE, 0x6081, 1000, 1);
        leaves(TARGET_SPEED, 0x60FF, 1000, -1000);
    }

    private static void leaves(int entry, int index, int greatest, int least) {
        Bench bench = new Bench(5);
        bench.map(0x1600, entry, CONTROL);
        bench.operate();
        int[] values = {greatest, greatest + 1, Integer.MAX_VALUE, least, least - 1, Integer.MIN_VALUE};
        int[] due = {greatest, greatest, greatest, least, least, least};
        for (int k = 0; k < values.length; k++) {
            long data = values[k] & 0xFFFFFFFFL | (long) (k + 1) << 32;
            Check.same("the frame is taken", bench.in(6, data), 3);
            Check.same("after " + values[k], bench.value(index, 0), due[k]);
            Check.same("the other object takes its bytes", bench.value(0x6040, 0), k + 1);
        }
    }

    private static void modeOfTwo() {
        Check.sentence("(or a MODE of 2)");
        Bench bench = new Bench(5);
        bench.map(0x1600, MODE, CONTROL);
        bench.operate();
        int[] modes = {2, 0, 4, 255, 3, 2, 0, 4, 255, 1};
        int[] due = {1, 1, 1, 1, 3, 3, 3, 3, 3, 1};
        for (int k = 0; k < modes.length; k++) {
            Check.same("the frame is taken", bench.in(3, modes[k] | (k + 1) << 8), 3);
            Check.same("after MODE " + modes[k], bench.value(0x6060, 0), due[k]);
            Check.same("CONTROL takes its bytes", bench.value(0x6040, 0), k + 1);
        }
    }

    private static void countInOfZero() {
        Check.sentence("with a COUNT IN of 0, or with less bytes, the frame is not taken");
        Bench bench = new Bench(5);
        bench.set(0x1600, 0, 1, 0);
        bench.operate();
        for (int length = 0; length <= 8; length++) {
            Check.same("length " + length, bench.in(length, 6), 0);
        }
        Check.same("CONTROL", bench.value(0x6040, 0), 0);
    }

    private static void lessBytes() {
        Check.sentence("or with less bytes, the frame is not taken");
        Bench bench = new Bench(5);
        bench.map(0x1600, CONTROL, TARGET);
        bench.operate();
        Check.same("1 byte less", bench.in(5, 0x00000009_0006L), 0);
        Check.same("the first object too is as it was", bench.value(0x6040, 0), 0);
        Check.same("and the second", bench.value(0x607A, 0), 0);
        Check.same("enough", bench.in(6, 0x00000009_0006L), 3);
        Check.same("CONTROL", bench.value(0x6040, 0), 6);
        Check.same("TARGET", bench.value(0x607A, 0), 9);
    }

    private static void outBytesAndLength() {
        Check.sentence("OUT: 0x180 + N with the mapped objects' bytes one after the other, and that length");
        int[][] mappings = {{MODE}, {CONTROL}, {TARGET}, {MODE, TARGET}, {TARGET, MODE, CONTROL}, {TARGET, PROFILE}};
        int[] lengths = {1, 2, 4, 5, 7, 8};
        long[] due = {0x03, 0x9080, 0xFFFE7960L, 0xFFFE7960_03L, 0x9080_03_FFFE7960L, 0x000003E8_FFFE7960L};
        for (int k = 0; k < mappings.length; k++) {
            Bench bench = new Bench(127);
            bench.map(0x1A00, mappings[k]);
            bench.set(0x6060, 0, 1, 3);
            bench.set(0x6040, 0, 2, 0x9080);
            bench.set(0x607A, 0, 4, -100000);
            bench.set(0x6081, 0, 4, 1000);
            bench.operate();
            bench.drain();
            bench.servo.tick(0);
            bench.expect("OUT of " + lengths[k], 0x1FF, lengths[k], due[k]);
        }
    }

    private static void countOutOfZero() {
        Check.sentence("not sent with a COUNT OUT of 0");
        Bench bench = new Bench(5);
        bench.set(0x1A00, 0, 1, 0);
        bench.set(0x1800, 5, 2, 1);
        bench.operate();
        bench.drain();
        bench.servo.run(5);
        bench.expectNothing("at the end of a tick");
        bench.set(0x1800, 2, 1, 1);
        Check.same("SYNC is taken", bench.sync(), 2);
        bench.expectNothing("by SYNC");
        Check.same("nor lost", bench.servo.lost(), 0);
    }

    private static void syncCounts() {
        Check.sentence("With TYPE 1 .. 240 each SYNC frame (in OPERATING) adds 1 to a count");
        Bench least = outOfSample(1, 0, 0);
        for (int k = 0; k < 5; k++) {
            least.sync();
            Check.same("TYPE 1: each of them", least.servo.waiting(), k + 1);
        }
        Bench greatest = outOfSample(240, 0, 0);
        for (int k = 0; k < 239; k++) {
            greatest.sync();
        }
        greatest.expectNothing("TYPE 240: 239 of them");
        greatest.sync();
        greatest.expect("TYPE 240: 240 of them", 0x185, 4, 0);
        Bench left = outOfSample(3, 0, 0);
        left.sync();
        left.sync();
        left.stop();
        left.sync();
        left.operate();
        left.expectNothing("not counted in STOPPED");
        left.sync();
        left.expect("nor is the count begun anew", 0x185, 4, 0);
    }

    /** A drive in OPERATING whose OUT is SAMPLE; its mailbox is empty. */
    private static Bench outOfSample(int type, int inhibit, int every) {
        Bench bench = new Bench(5);
        bench.map(0x1A00, SAMPLE);
        bench.set(0x1800, 2, 1, type);
        bench.set(0x1800, 3, 2, inhibit);
        bench.set(0x1800, 5, 2, every);
        bench.operate();
        bench.drain();
        return bench;
    }

    private static void syncReachesType() {
        Check.sentence("has it reached TYPE, it becomes 0 and OUT is sent");
        Bench bench = outOfSample(3, 60000, 0);
        bench.servo.tick(8);
        for (int round = 0; round < 4; round++) {
            bench.sync();
            bench.sync();
            bench.expectNothing("2 of them");
            bench.sync();
            bench.expect("3 of them, the same bytes, whatever INHIBIT is", 0x185, 4, 8);
            bench.expectNothing("only one OUT");
        }
    }

    private static void syncTypes() {
        Check.sentence("With TYPE 1 .. 240");
        for (int type : new int[] {0, 241, 255}) {
            Bench bench = outOfSample(type, 0, 0);
            for (int k = 0; k < 260; k++) {
                bench.sync();
            }
            bench.expectNothing("SYNC with TYPE " + type);
        }
        for (int type : new int[] {0, 1, 240}) {
            Bench bench = outOfSample(type, 0, 1);
            bench.servo.tick(1);
            bench.servo.tick(2);
            bench.expectNothing("ticks with TYPE " + type);
        }
    }

    private static void tickTypes() {
        Check.sentence("With TYPE 241 .. 255 OUT is sent at the end of a tick in OPERATING if it is DUE and not HELD");
        for (int type = 241; type <= 255; type++) {
            Bench bench = outOfSample(type, 0, 0);
            bench.expectNothing("not before a tick");
            bench.servo.tick(type);
            bench.expect("TYPE " + type, 0x185, 4, type);
            bench.stop();
            bench.servo.tick(1);
            bench.prepare();
            bench.servo.tick(2);
            bench.expectNothing("not in STOPPED nor in PREPARING");
        }
        Bench refused = outOfSample(255, 0, 1);
        refused.servo.tick(1000001);
        refused.servo.run(0);
        refused.servo.run(101);
        refused.expectNothing("nor without a tick");
    }

    private static void dueAndNotHeld() {
        Check.sentence("if it is DUE and not HELD");
        Bench bench = outOfSample(255, 3, 1);
        bench.servo.tick(1);
        bench.expect("due, not held", 0x185, 4, 1);
        bench.servo.tick(2);
        bench.expectNothing("due twice over, held");
        bench.servo.tick(1);
        bench.expectNothing("due by EVERY, held");
        bench.servo.tick(1);
        bench.expect("due by EVERY, no longer held", 0x185, 4, 1);
        bench.set(0x1800, 5, 2, 0);
        bench.servo.tick(9);
        bench.servo.tick(1);
        bench.servo.tick(1);
        bench.servo.tick(1);
        bench.expectNothing("what changed while it was held has changed back");
    }

    private static void dueAtFirst() {
        Check.sentence("due when none was sent since OPERATING was entered (from another state)");
        Bench bench = outOfSample(255, 0, 0);
        bench.servo.tick(0);
        bench.expect("entered from PREPARING", 0x185, 4, 0);
        bench.servo.tick(0);
        bench.expectNothing("one was sent");
        bench.operate();
        bench.servo.tick(0);
        bench.expectNothing("OPERATING from OPERATING is not entered");
        bench.stop();
        bench.operate();
        bench.servo.tick(0);
        bench.expect("entered from STOPPED", 0x185, 4, 0);
        bench.prepare();
        bench.operate();
        bench.servo.tick(0);
        bench.expect("entered from PREPARING", 0x185, 4, 0);
    }

    private static void dueByOtherBytes() {
        Check.sentence("or its bytes or length are others than those sent last");
        Bench bench = outOfSample(255, 0, 0);
        bench.servo.tick(1);
        bench.expect("the first", 0x185, 4, 1);
        bench.servo.tick(1);
        bench.expectNothing("the same bytes");
        bench.servo.tick(-1);
        bench.expect("other bytes", 0x185, 4, 0xFFFFFFFFL);
        bench.servo.tick(1);
        bench.expect("as the first, but not as the last", 0x185, 4, 1);
        Bench high = new Bench(5);
        high.map(0x1A00, SAMPLE, TARGET_SPEED);
        high.operate();
        high.drain();
        high.servo.tick(1);
        high.expect("the first", 0x185, 8, 1);
        high.set(0x60FF, 0, 4, 1);
        high.servo.tick(1);
        high.expect("others in the bytes 4 on", 0x185, 8, 1L << 32 | 1);
        high.prepare();
        high.map(0x1A00, SAMPLE);
        high.set(0x60FF, 0, 4, 0);
        high.operate();
        high.drain();
        high.servo.tick(1);
        high.expect("another length", 0x185, 4, 1);
    }

    private static void dueByEvery() {
        Check.sentence("or EVERY > 0 and the last one was sent EVERY or more ticks ago");
        Bench none = outOfSample(255, 0, 0);
        none.servo.run(100);
        Check.same("EVERY 0", none.servo.waiting(), 1);
        Bench each = outOfSample(255, 0, 1);
        each.servo.run(7);
        Check.same("EVERY 1", each.servo.waiting(), 7);
        Bench bench = outOfSample(255, 0, 4);
        bench.servo.run(1);
        bench.expect("the first", 0x185, 4, 0);
        bench.servo.run(3);
        bench.expectNothing("3 ticks ago");
        bench.servo.run(1);
        bench.expect("4 ticks ago", 0x185, 4, 0);
        bench.servo.run(2);
        bench.servo.tick(5);
        bench.expect("other bytes", 0x185, 4, 5);
        bench.servo.run(3);
        bench.expectNothing("3 ticks after these");
        bench.set(0x1800, 5, 2, 2);
        bench.servo.run(1);
        bench.expect("more than EVERY ticks ago", 0x185, 4, 5);
    }

    private static void heldByInhibit() {
        Check.sentence("held when one was sent since OPERATING was entered and that is less than INHIBIT ticks ago");
        for (int inhibit = 0; inhibit <= 5; inhibit++) {
            Bench bench = outOfSample(255, inhibit, 0);
            bench.servo.tick(100);
            bench.expect("the first", 0x185, 4, 100);
            int free = Math.max(1, inhibit);
            for (int ago = 1; ago < free; ago++) {
                bench.servo.tick(ago);
                bench.expectNothing(ago + " ticks ago with INHIBIT " + inhibit);
            }
            bench.servo.tick(free);
            bench.expect(free + " ticks ago with INHIBIT " + inhibit, 0x185, 4, free);
        }
    }

    private static void heldOnlySinceEntered() {
        Check.sentence("held when one was sent since OPERATING was entered");
        Bench bench = outOfSample(255, 65535, 0);
        bench.servo.tick(1);
        bench.expect("the first is not held", 0x185, 4, 1);
        bench.operate();
        bench.servo.tick(2);
        bench.expectNothing("OPERATING from OPERATING");
        bench.stop();
        bench.operate();
        bench.servo.tick(2);
        bench.expect("entered anew", 0x185, 4, 2);
        bench.servo.tick(3);
        bench.expectNothing("held again");
    }

    private static void ticksAgo() {
        Check.sentence("(At the end of the tick after which it was sent that is 0 ticks ago, at the end of the next one 1.");
        Bench bench = outOfSample(255, 2, 0);
        bench.servo.tick(1);
        bench.expect("sent after this tick: 0", 0x185, 4, 1);
        bench.servo.tick(2);
        bench.expectNothing("1 tick ago");
        bench.servo.tick(3);
        bench.expect("2 ticks ago", 0x185, 4, 3);
        Bench synced = outOfSample(1, 2, 0);
        synced.servo.tick(1);
        synced.sync();
        synced.expect("sent after this tick by SYNC: 0", 0x185, 4, 1);
        synced.set(0x1800, 2, 1, 255);
        synced.servo.tick(2);
        synced.expectNothing("1 tick ago");
        synced.servo.tick(3);
        synced.expect("2 ticks ago", 0x185, 4, 3);
    }

    private static void lostCountsAsSent() {
        Check.sentence("One that is LOST counts as sent.)");
        Bench full = outOfSample(255, 0, 3);
        full.fillTo(12);
        full.servo.tick(4);
        Check.same("lost", full.servo.lost(), 1);
        full.drain();
        full.servo.tick(4);
        full.expectNothing("its bytes are those sent last");
        full.servo.tick(4);
        full.expectNothing("2 ticks ago");
        full.servo.tick(4);
        full.expect("3 ticks ago", 0x185, 4, 4);
        Bench held = outOfSample(255, 3, 0);
        held.servo.bus(false);
        held.servo.tick(4);
        Check.same("an EMERGENCY and OUT are lost", held.servo.lost(), 2);
        held.servo.bus(true);
        held.servo.tick(5);
        held.servo.tick(6);
        held.expectNothing("it holds the next one");
        held.servo.tick(7);
        held.expect("3 ticks ago", 0x185, 4, 7);
    }
}
