/** Promise 2: the channel: the objects, what is read and written, and the codes in their order. */
public final class ChannelTest {
    private static final int R = Dictionary.R;
    private static final int W = Dictionary.W;
    private static final int S = Dictionary.S;
    private static final int LOW = Dictionary.LOW;
    private static final int HIGH = Dictionary.HIGH;
    private static final int[][] OBJECTS = Dictionary.OBJECTS;

    public static void main(String[] args) {
        reads();
        addresses();
        sizes();
        ranges();
        otherCommands();
        readsOfNumbers();
        stageOnly();
        mappingOnly();
        saves();
        orderOfCodes();
        fullMailbox();
        Check.end();
    }

    private static long refusal(int index, int sub, int code) {
        return Bench.frame(0x80, index, sub, code);
    }

    private static void reads() {
        for (int[] o : OBJECTS) {
            Bench bench = new Bench(42);
            // the bytes of the value do not matter to a read
            long answer = bench.ask(0x40, o[0], o[1], 0x12345678);
            int command = o[2] == 1 ? 0x4F : o[2] == 2 ? 0x4B : 0x43;
            long due = o[3] == W ? refusal(o[0], o[1], 0x06010001) : Bench.frame(command, o[0], o[1], o[4]);
            Check.same("read " + Dictionary.name(o), answer, due);
            Check.same("object " + Dictionary.name(o), bench.servo.object(o[0], o[1]), o[4]);
        }
    }

    private static void addresses() {
        boolean[] indexes = new boolean[65536];
        boolean[][] subs = new boolean[65536][];
        for (int[] o : OBJECTS) {
            indexes[o[0]] = true;
            if (subs[o[0]] == null) {
                subs[o[0]] = new boolean[256];
            }
            subs[o[0]][o[1]] = true;
        }
        for (int index = 0; index < 65536; index++) {
            boolean near = index % 257 == 0 || (index & 0xFE00) == 0x1000 || (index & 0xFF00) == 0x6000;
            if (!indexes[index] && near) {
                Bench bench = new Bench(1);
                long due = refusal(index, 1, 0x06020000);
                Check.same("index " + index, bench.ask(0x40, index, 1, 0), due);
                Check.same("index " + index, bench.ask(0x23, index, 1, 0), due);
                Check.same("object " + index, bench.servo.object(index, 0), 0);
            }
            for (int sub = 0; indexes[index] && sub < 256; sub++) {
                if (!subs[index][sub]) {
                    Bench bench = new Bench(1);
                    long due = refusal(index, sub, 0x06090011);
                    Check.same("sub " + index + ":" + sub, bench.ask(0x40, index, sub, 0), due);
                    Check.same("sub " + index + ":" + sub, bench.ask(0x2F, index, sub, 0), due);
                    Check.same("object " + index + ":" + sub, bench.servo.object(index, sub), 0);
                }
            }
        }
    }

    private static void sizes() {
        for (int[] o : OBJECTS) {
            for (int bytes = 1; bytes <= 4; bytes++) {
                Bench bench = new Bench(6);
                int due = o[3] == R ? 0x06010002 : 0x06070010;
                if (o[3] == R || bytes != o[2]) {
                    Check.same("write " + bytes + " bytes to " + Dictionary.name(o), bench.code(o[0], o[1], bytes, 1), due);
                    Check.same("unchanged " + Dictionary.name(o), bench.servo.object(o[0], o[1]), o[4]);
                }
            }
        }
    }

    private static void ranges() {
        for (int[] o : OBJECTS) {
            if (o[3] == R || o[3] == W || o[0] == 0x1600 || o[0] == 0x1A00) {
                continue;
            }
            Bench bench = new Bench(6);
            check(bench, o, o[5], 0);
            check(bench, o, o[6], 0);
            check(bench, o, o[5] + 1 == 2 ? 3 : o[5] + 1, 0);
            check(bench, o, o[6], 0);
            boolean fills = o[2] < 4 && o[6] == (1 << 8 * o[2]) - 1;
            if (!fills) {
                check(bench, o, o[6] + 1, 0x06090031);
            }
            if (o[5] > 0 || o[2] == 4) {
                check(bench, o, o[5] - 1, 0x06090032);
            }
            if (o[2] == 4) {
                check(bench, o, HIGH, 0x06090031);
                check(bench, o, LOW, 0x06090032);
            }
        }
        Bench bench = new Bench(6);
        Check.same("MODE 2", bench.code(0x6060, 0, 1, 2), 0x06090030);
        Check.same("MODE 0", bench.code(0x6060, 0, 1, 0), 0x06090032);
        Check.same("MODE 255", bench.code(0x6060, 0, 1, 255), 0x06090031);
        Check.same("MODE stays", bench.servo.object(0x6060, 0), 1);
        Check.same("MODE 3", bench.code(0x6060, 0, 1, 3), 0);
        Check.same("MODE is 3", bench.servo.object(0x6060, 0), 3);
        // bytes beyond the ones that are written do not matter
        Check.same("MODE with more bytes", bench.code(0x6060, 0, 1, 0x77777701), 0);
        Check.same("MODE is 1", bench.servo.object(0x6060, 0), 1);
        Check.same("BEAT with more bytes", bench.code(0x1017, 0, 2, 0x7777FFFE), 0);
        Check.same("BEAT is 0xFFFE", bench.servo.object(0x1017, 0), 0xFFFE);
    }

    private static void check(Bench bench, int[] o, int value, int code) {
        int before = bench.servo.object(o[0], o[1]);
        Check.same("write " + value + " to " + Dictionary.name(o), bench.code(o[0], o[1], o[2], value), code);
        Check.same("then " + Dictionary.name(o), bench.servo.object(o[0], o[1]), code == 0 ? value : before);
    }

    private static void otherCommands() {
        for (int command = 0; command < 256; command++) {
            Bench bench = new Bench(6);
            boolean known = command == 0x40 || command == 0x80 || command == 0x2F || command == 0x2B
                    || command == 0x27 || command == 0x23;
            if (!known) {
                Check.same("command " + command, bench.ask(command, 0x6081, 0, 5), refusal(0x6081, 0, 0x05040001));
                Check.same("command " + command, bench.ask(command, 0x7777, 3, 5), refusal(0x7777, 3, 0x05040001));
                Check.same("PROFILE", bench.servo.object(0x6081, 0), 100);
            }
        }
    }

    private static void readsOfNumbers() {
        Bench bench = new Bench(6);
        bench.set(0x607A, 0, 4, -100000);
        Check.same("read a negative", bench.ask(0x40, 0x607A, 0, 0), Bench.frame(0x43, 0x607A, 0, -100000));
        bench.set(0x1017, 0, 2, 65535);
        Check.same("read two bytes", bench.ask(0x40, 0x1017, 0, 0), Bench.frame(0x4B, 0x1017, 0, 65535));
        bench.servo.tick(-1000000);
        Check.same("read SAMPLE", bench.ask(0x40, 0x6064, 0, 0), Bench.frame(0x43, 0x6064, 0, -1000000));
        bench.powerTo(4, -500);
        Check.same("read SPEED", bench.ask(0x40, 0x606B, 0, 0), Bench.frame(0x43, 0x606B, 0, -10));
        bench.operate();
        Check.same("read STATUS", bench.ask(0x40, 0x6041, 0, 0), Bench.frame(0x4B, 0x6041, 0, 0x227));
        bench.servo.bus(false);
        bench.servo.bus(true);
        Check.same("read ERRORS", bench.ask(0x40, 0x1001, 0, 0), Bench.frame(0x4F, 0x1001, 0, 0x11));
    }

    private static void stageOnly() {
        for (int state = 1; state <= 7; state++) {
            for (int[] o : OBJECTS) {
                if (o[3] == S) {
                    Bench bench = Bench.inState(state);
                    boolean on = state >= 4 && state <= 6;
                    String what = "write " + Dictionary.name(o) + " in " + state;
                    Check.same(what, bench.code(o[0], o[1], 4, 7), on ? 0x08000022 : 0);
                    Check.same("then " + Dictionary.name(o), bench.servo.object(o[0], o[1]), on ? o[4] : 7);
                    Check.same(what + " with 1 byte", bench.code(o[0], o[1], 1, 7), 0x06070010);
                    Check.same(what + " too much", bench.code(o[0], o[1], 4, 100001), on ? 0x08000022 : 0x06090031);
                }
            }
            Bench bench = Bench.inState(state);
            bench.set(0x607A, 0, 4, 9);
            bench.set(0x6081, 0, 4, 9);
            bench.set(0x60FF, 0, 4, 9);
            bench.set(0x6060, 0, 1, 3);
        }
    }

    private static void mappingOnly() {
        for (int index : new int[] {0x1600, 0x1A00}) {
            int other = 0x1600 + 0x1A00 - index;
            int good = index == 0x1600 ? 0x60400010 : 0x60410010;
            Bench bench = new Bench(6);
            for (int sub = 1; sub <= 3; sub++) {
                Check.same("entry while COUNT is 1", bench.code(index, sub, 4, 5), 0x08000022);
            }
            Check.same("COUNT while it is 1", bench.code(index, 0, 1, 1), 0);
            bench.set(index, 0, 1, 0);
            for (int sub = 1; sub <= 3; sub++) {
                for (int value : new int[] {LOW, -1, 0, HIGH}) {
                    bench.set(index, sub, 4, value);
                    Check.same("entry", bench.servo.object(index, sub), value);
                }
                Check.same("entry of the other", bench.code(other, sub, 4, 5), 0x08000022);
            }
            bench.operate();
            Check.same("entry in OPERATING", bench.code(index, 1, 4, good), 0x08000022);
            Check.same("COUNT in OPERATING", bench.code(index, 0, 1, 0), 0x08000022);
            Check.same("COUNT 9 in OPERATING", bench.code(index, 0, 1, 9), 0x08000022);
            bench.prepare();
            bench.set(index, 1, 4, good);
            Check.same("COUNT 4", bench.code(index, 0, 1, 4), 0x06090031);
            Check.same("COUNT 255", bench.code(index, 0, 1, 255), 0x06090031);
            bench.set(index, 0, 1, 1);
            Check.same("entry with COUNT 1", bench.code(index, 2, 4, 5), 0x08000022);
            Check.same("entry of the other", bench.code(other, 2, 4, 5), 0x08000022);
        }
    }

    private static void saves() {
        Bench bench = new Bench(6);
        Check.same("SAVE, wrong sign", bench.code(0x1010, 1, 4, 0x64616F6C), 0x08000020);
        Check.same("RESTORE, wrong sign", bench.code(0x1011, 1, 4, 0x65766173), 0x08000020);
        Check.same("SAVE with 0", bench.code(0x1010, 1, 4, 0), 0x08000020);
        bench.servo.run(1);
        Check.same("SAVE", bench.code(0x1010, 1, 4, 0x65766173), 0);
        Check.same("SAVE with 2 bytes", bench.code(0x1010, 1, 2, 0x65766173), 0x06070010);
        Check.same("SAVE, wrong sign, under way", bench.code(0x1010, 1, 4, 1), 0x08000020);
        bench.servo.run(22);
        Check.same("SAVE under way", bench.code(0x1010, 1, 4, 0x65766173), 0x08000022);
        Check.same("RESTORE under way", bench.code(0x1011, 1, 4, 0x64616F6C), 0x08000022);
        Check.same("RESTORE, wrong sign, under way", bench.code(0x1011, 1, 4, 2), 0x08000020);
        bench.servo.run(1);
        Check.same("RESTORE", bench.code(0x1011, 1, 4, 0x64616F6C), 0);
        Check.same("SAVE while RESTORE is under way", bench.code(0x1010, 1, 4, 0x65766173), 0x08000022);
        Check.same("RESTORE twice", bench.code(0x1011, 1, 4, 0x64616F6C), 0x08000022);
        bench.servo.run(23);
        bench.operate();
        Check.same("SAVE in OPERATING", bench.code(0x1010, 1, 4, 0x65766173), 0);
    }

    private static void orderOfCodes() {
        Bench bench = new Bench(6);
        Check.same("read of kind w, sub first", bench.ask(0x40, 0x1010, 0, 0), refusal(0x1010, 0, 0x06090011));
        Check.same("kind r before bytes", bench.code(0x6041, 0, 4, 0), 0x06010002);
        Check.same("3 bytes", bench.code(0x6081, 0, 3, 5), 0x06070010);
        Check.same("bytes before the range", bench.code(0x6060, 0, 2, 9), 0x06070010);
        bench.operate();
        Check.same("bytes before the state", bench.code(0x1600, 0, 2, 9), 0x06070010);
    }

    private static void fullMailbox() {
        Bench bench = new Bench(6);
        for (int k = 0; k < 11; k++) {
            bench.servo.receive(0x606, 8, Bench.frame(0x40, 0x1001, 0, 0));
        }
        Check.same("full", bench.servo.waiting(), 12);
        Check.same("taken", bench.servo.receive(0x606, 8, Bench.frame(0x23, 0x6081, 0, 5)), 4);
        Check.same("written though the answer is lost", bench.servo.object(0x6081, 0), 5);
        Check.same("lost", bench.servo.lost(), 1);
    }
}
