/** Promises 2 and 3: COUNT with its entries, what IN writes and what OUT holds. */
public final class MappingTest {
    private static final int[] B_ENTRIES = {0x60400010, 0x60600008, 0x607A0020, 0x60810020, 0x60FF0020};
    private static final int[] R_ENTRIES = {0x60410010, 0x60640020, 0x606B0020};
    private static final int[] S_ENTRIES = {
        0x60650020, 0x607D0120, 0x607D0220, 0x607F0020, 0x60830020, 0x60850020,
    };
    private static final int[] NO_ENTRIES = {
        0, -1, 1, 0x60400000, 0x60400008, 0x60400020, 0x60400110, 0x60600010, 0x607A0008, 0x607D0020,
        0x607D0320, 0x10010008, 0x10170010, 0x10160120, 0x18000208, 0x1A000008, 0x16000008, 0x10100120,
        0x60420010, 0xE0400010, 0x7FFFFFFF, 0x80000000, 0x60400011, 0x60600108,
    };

    public static void main(String[] args) {
        singleEntries();
        manyEntries();
        inWrites();
        inLeaves();
        outHolds();
        outOfNothing();
        Check.end();
    }

    /** The code of writing COUNT k with these entries. */
    private static int count(Bench bench, int index, int k, int... entries) {
        bench.set(index, 0, 1, 0);
        for (int n = 0; n < entries.length; n++) {
            bench.set(index, n + 1, 4, entries[n]);
        }
        return bench.code(index, 0, 1, k);
    }

    private static void singleEntries() {
        for (int entry : B_ENTRIES) {
            single(entry, 0, 0);
        }
        for (int entry : R_ENTRIES) {
            single(entry, 0x06040041, 0);
        }
        for (int entry : S_ENTRIES) {
            single(entry, 0x06040041, 0);
        }
        for (int entry : NO_ENTRIES) {
            single(entry, 0x06040041, 0x06040041);
        }
    }

    private static void single(int entry, int codeIn, int codeOut) {
        Bench bench = new Bench(2);
        String what = "entry " + Integer.toHexString(entry);
        Check.same(what + " IN", count(bench, 0x1600, 1, entry), codeIn);
        Check.same(what + " COUNT IN", bench.servo.object(0x1600, 0), codeIn == 0 ? 1 : 0);
        Check.same(what + " OUT", count(bench, 0x1A00, 1, entry), codeOut);
        Check.same(what + " COUNT OUT", bench.servo.object(0x1A00, 0), codeOut == 0 ? 1 : 0);
    }

    private static void manyEntries() {
        Bench bench = new Bench(2);
        int i = 0x1600;
        Check.same("4 + 4", count(bench, i, 2, 0x607A0020, 0x60810020), 0);
        Check.same("4 + 4 + 1", count(bench, i, 3, 0x607A0020, 0x60810020, 0x60600008), 0x06040042);
        Check.same("COUNT stays", bench.servo.object(i, 0), 0);
        Check.same("4 + 4 of 3", count(bench, i, 2, 0x607A0020, 0x60810020, 0x60600008), 0);
        Check.same("4 + 4 + wrong", count(bench, i, 3, 0x607A0020, 0x60810020, 0x60600010), 0x06040041);
        Check.same("wrong ones behind k", count(bench, i, 1, 0x607A0020, 5, 6), 0);
        Check.same("wrong one second", count(bench, i, 2, 0x607A0020, 5, 6), 0x06040041);
        Check.same("2 + 4 + 2", count(bench, i, 3, 0x60400010, 0x607A0020, 0x60400010), 0);
        Check.same("2 + 4 + 4", count(bench, i, 3, 0x60400010, 0x607A0020, 0x607A0020), 0x06040042);
        Check.same("too long before wrong", count(bench, 0x1A00, 3, 0x607A0020, 0x607A0020, 0x607A0020), 0x06040042);
        Check.same("1 + 2 + 4", count(bench, 0x1A00, 3, 0x60600008, 0x60410010, 0x60640020), 0);
        Check.same("from 3 to 2", bench.code(0x1A00, 0, 1, 2), 0);
        Check.same("from 2 to 3", bench.code(0x1A00, 0, 1, 3), 0);
        Check.same("COUNT OUT", bench.servo.object(0x1A00, 0), 3);
        bench.set(0x1A00, 0, 1, 0);
        bench.set(0x1A00, 2, 4, 9);
        Check.same("now wrong", bench.code(0x1A00, 0, 1, 3), 0x06040041);
        bench.set(0x1A00, 0, 1, 1);
        Check.same("1 to 2, wrong", bench.code(0x1A00, 0, 1, 2), 0x06040041);
        Check.same("COUNT OUT stays 1", bench.servo.object(0x1A00, 0), 1);
    }

    private static void inWrites() {
        Bench bench = new Bench(2);
        BusServo servo = bench.servo;
        Check.same("map", count(bench, 0x1600, 3, 0x60600008, 0x60FF0020, 0x60400010), 0);
        bench.operate();
        Check.same("too short", servo.receive(0x202, 6, 0x000F_FFFFFC18_03L), 0);
        Check.same("MODE as before", servo.object(0x6060, 0), 1);
        Check.same("IN", servo.receive(0x202, 7, 0x00FF_800F_FFFFFC18_03L), 3);
        Check.same("MODE", servo.object(0x6060, 0), 3);
        Check.same("TARGET SPEED", servo.object(0x60FF, 0), -1000);
        Check.same("CONTROL", servo.object(0x6040, 0), 0x800F);
        Check.same("IN is not answered", servo.waiting(), 0);
        bench.prepare();
        Check.same("map one twice", count(bench, 0x1600, 2, 0x607A0020, 0x607A0020), 0);
        bench.operate();
        Check.same("IN", servo.receive(0x202, 8, 0x00000007_00000005L), 3);
        Check.same("the later one stays", servo.object(0x607A, 0), 7);
        Check.same("IN", servo.receive(0x202, 8, 0x7FFFFFFF_00000005L), 3);
        Check.same("the later one was out of range", servo.object(0x607A, 0), 5);
    }

    private static void inLeaves() {
        Bench bench = new Bench(2);
        BusServo servo = bench.servo;
        Check.same("map", count(bench, 0x1600, 2, 0x60600008, 0x60810020), 0);
        bench.operate();
        for (int mode : new int[] {0, 2, 4, 255}) {
            Check.same("IN", servo.receive(0x202, 5, (long) (200 + mode) << 8 | mode), 3);
            Check.same("MODE after " + mode, servo.object(0x6060, 0), 1);
            Check.same("the next one is taken", servo.object(0x6081, 0), 200 + mode);
        }
        for (int profile : new int[] {0, 1001, -1, Integer.MAX_VALUE, Integer.MIN_VALUE}) {
            Check.same("IN", servo.receive(0x202, 5, (profile & 0xFFFFFFFFL) << 8 | 3), 3);
            Check.same("PROFILE after " + profile, servo.object(0x6081, 0), 455);
            Check.same("MODE", servo.object(0x6060, 0), 3);
        }
        Check.same("IN", servo.receive(0x202, 5, 1000L << 8 | 1), 3);
        Check.same("the greatest", servo.object(0x6081, 0), 1000);
        Check.same("IN", servo.receive(0x202, 5, 1L << 8 | 1), 3);
        Check.same("the least", servo.object(0x6081, 0), 1);
    }

    private static void outHolds() {
        Bench bench = new Bench(2);
        Check.same("map", count(bench, 0x1A00, 3, 0x60600008, 0x60640020, 0x60410010), 0);
        bench.operate();
        bench.drain();
        bench.servo.tick(-2);
        bench.expect("OUT", 0x182, 7, 0x0240_FFFFFFFE_01L);
        bench.prepare();
        Check.same("map", count(bench, 0x1A00, 2, 0x607D0120, 0x607D0220), 0);
        bench.operate();
        bench.drain();
        bench.servo.tick(0);
        bench.expect("OUT", 0x182, 8, 100000L << 32 | -100000 & 0xFFFFFFFFL);
        bench.prepare();
        Check.same("map", count(bench, 0x1A00, 1, 0x60600008), 0);
        bench.set(0x1800, 2, 1, 1);
        bench.operate();
        bench.drain();
        bench.servo.receive(0x80, 0, 0);
        bench.expect("OUT by SYNC", 0x182, 1, 1);
        bench.prepare();
        Check.same("map", count(bench, 0x1A00, 1, 0x606B0020), 0);
        bench.powerTo(4, 300);
        bench.operate();
        bench.drain();
        bench.servo.receive(0x80, 0, 0);
        bench.expect("OUT with SPEED", 0x182, 4, 0xFFFFFFF6L);
    }

    private static void outOfNothing() {
        Bench bench = new Bench(2);
        bench.set(0x1A00, 0, 1, 0);
        bench.set(0x1800, 5, 2, 1);
        bench.operate();
        bench.drain();
        bench.servo.run(10);
        bench.expectNothing("COUNT OUT 0, TYPE 255");
        bench.set(0x1800, 2, 1, 1);
        Check.same("SYNC", bench.servo.receive(0x80, 0, 0), 2);
        bench.expectNothing("COUNT OUT 0, TYPE 1");
        Check.same("nothing is lost", bench.servo.lost(), 0);
    }
}
