import java.util.Random;

/** All promises: chance runs of calls, each answered by the program and by PlainServo. */
public final class RandomRunsTest {
    private static final int RUNS = 4000;
    /** What an object answers after 512 calls is free; one step makes some sixty at most. */
    private static final int CALLS = 450;
    private static final int[] INDEXES = {
        0x1001, 0x1010, 0x1011, 0x1016, 0x1017, 0x1600, 0x1800, 0x1A00, 0x6040, 0x6041, 0x6060, 0x6064, 0x6065,
        0x606B, 0x607A, 0x607D, 0x607F, 0x6081, 0x6083, 0x6085, 0x60FF, 0x1000, 0x6042, 0xFFFF,
    };
    private static final int[] COMMANDS = {0x40, 0x2F, 0x2B, 0x27, 0x23};
    private static final int[] CONTROLS = {6, 7, 15, 15, 15, 15, 2, 0, 0x80, 0x8F, 0xFFFF, 11};
    private static final int[] ENTRIES = {
        0x60400010, 0x60600008, 0x607A0020, 0x60810020, 0x60FF0020, 0x60410010, 0x60640020, 0x606B0020, 0x60650020,
        0x607D0120, 0x60830020, 0, 0x10170010, 0x60400008,
    };

    private final Random random;
    private final int node;
    private final BusServo servo;
    private final PlainServo plain;
    private final StringBuilder trace = new StringBuilder();
    private boolean agree = true;
    private int calls = 0;

    private RandomRunsTest(long seed) {
        random = new Random(seed);
        node = random.nextInt(8) == 0 ? random.nextInt(200) - 30 : 1 + random.nextInt(127);
        servo = new BusServo(node);
        plain = new PlainServo(node);
    }

    public static void main(String[] args) {
        long first = args.length > 0 ? Long.parseLong(args[0]) : 1;
        for (long seed = first; seed < first + RUNS; seed++) {
            RandomRunsTest run = new RandomRunsTest(seed);
            while (run.calls < CALLS && run.agree) {
                run.step();
            }
            Check.holds("run " + seed + run.trace, run.agree);
        }
        Check.end();
    }

    private void agree(String call, long got, long due) {
        calls++;
        if (got != due && agree) {
            agree = false;
            trace.append('\n').append(call).append(" answered ").append(got).append(", due is ").append(due);
        }
    }

    private void log(String call) {
        trace.append('\n').append(call);
    }

    private int of(int[] list) {
        return list[random.nextInt(list.length)];
    }

    private int realNode() {
        return node < 1 || node > 127 ? 1 : node;
    }

    private void receive(int identifier, int length, long data) {
        log("receive(" + identifier + ", " + length + ", " + data + "L)");
        agree("receive", servo.receive(identifier, length, data), plain.receive(identifier, length, data));
    }

    private void channel(int command, int index, int sub, int value) {
        receive(0x600 + realNode(), 8, Bench.frame(command, index, sub, value));
    }

    private void step() {
        switch (random.nextInt(20)) {
            case 0:
                receive(0, 2, random.nextInt(5) == 0 ? 128 : random.nextInt(3) == 0 ? 2 : 1);
                break;
            case 1:
            case 2:
                channel(0x2B, 0x6040, 0, of(CONTROLS));
                break;
            case 3:
            case 4:
                write();
                break;
            case 5:
                anyChannel();
                break;
            case 6:
                map();
                break;
            case 7:
                receive(0x80, random.nextInt(9), random.nextLong());
                break;
            case 8:
                receive(0x200 + realNode(), random.nextInt(9), inData());
                break;
            case 9:
                watch();
                break;
            case 10:
            case 11:
            case 12:
                run();
                break;
            case 13:
            case 14:
                tick();
                break;
            case 15:
                saveOrRestart();
                break;
            case 16:
                busOrRare();
                break;
            default:
                drain();
                break;
        }
        calls++;
        agree("power", servo.power(), plain.power());
        agree("position", servo.position(), plain.position());
        if (random.nextInt(6) == 0) {
            look();
        }
    }

    private long inData() {
        if (random.nextInt(3) == 0) {
            return random.nextLong();
        }
        long low = of(CONTROLS);
        return random.nextBoolean() ? low | (long) (random.nextInt(3000) - 1000) << 16
                : random.nextInt(5) | (long) (random.nextInt(3000) - 1000) << 8;
    }

    private void write() {
        switch (random.nextInt(12)) {
            case 0:
                channel(0x2F, 0x6060, 0, random.nextInt(5));
                break;
            case 1:
                channel(0x23, 0x607A, 0, random.nextInt(6000) - 3000);
                break;
            case 2:
                channel(0x23, 0x6081, 0, random.nextInt(1010));
                break;
            case 3:
                channel(0x23, 0x6083, 0, random.nextInt(60));
                break;
            case 4:
                channel(0x23, 0x6085, 0, random.nextInt(60));
                break;
            case 5:
                channel(0x23, 0x60FF, 0, random.nextInt(2010) - 1005);
                break;
            case 6:
                channel(0x23, 0x607D, 1 + random.nextInt(2), random.nextInt(4000) - 2000);
                break;
            case 7:
                channel(0x23, 0x6065, 0, random.nextInt(2000));
                break;
            case 8:
                channel(0x2F, 0x1800, 2, of(new int[] {0, 1, 2, 3, 240, 241, 254, 255, 255, 255}));
                break;
            case 9:
                channel(0x2B, 0x1800, 3, random.nextInt(8));
                break;
            case 10:
                channel(0x2B, 0x1800, 5, random.nextInt(12));
                break;
            default:
                channel(0x2B, 0x1017, 0, random.nextInt(12));
                break;
        }
    }

    private void anyChannel() {
        int command = random.nextInt(6) == 0 ? random.nextInt(256) : of(COMMANDS);
        int value = random.nextBoolean() ? random.nextInt(20) - 5 : random.nextInt();
        channel(command, of(INDEXES), random.nextInt(6), value);
    }

    private void map() {
        int index = random.nextBoolean() ? 0x1600 : 0x1A00;
        channel(0x2F, index, 0, 0);
        for (int sub = 1; sub <= 3; sub++) {
            channel(0x23, index, sub, of(ENTRIES));
        }
        for (int count = 3; count > 0; count--) {
            channel(0x2F, index, 0, count);
        }
    }

    private void watch() {
        if (random.nextInt(3) == 0) {
            channel(0x23, 0x1016, 1, random.nextInt(4) << 16 | random.nextInt(6));
        } else {
            receive(0x700 + random.nextInt(4), random.nextInt(5) == 0 ? 0 : 1, random.nextInt(256));
        }
    }

    private void run() {
        int ticks = random.nextInt(4) == 0 ? random.nextInt(105) - 2 : random.nextInt(12);
        log("run(" + ticks + ")");
        agree("run", servo.run(ticks), plain.run(ticks));
    }

    private void tick() {
        int sample = random.nextInt(20) == 0 ? random.nextInt(2100000) - 1050000
                : servo.position() + random.nextInt(11) - 5;
        log("tick(" + sample + ")");
        agree("tick", servo.tick(sample) ? 1 : 0, plain.tick(sample) ? 1 : 0);
    }

    private void saveOrRestart() {
        switch (random.nextInt(4)) {
            case 0:
                channel(0x23, 0x1011, 1, 0x64616F6C);
                break;
            case 1:
                receive(0, 2, 129);
                break;
            default:
                channel(0x23, 0x1010, 1, 0x65766173);
                break;
        }
    }

    private void busOrRare() {
        switch (random.nextInt(8)) {
            case 0:
                log("bus(false)");
                servo.bus(false);
                plain.bus(false);
                break;
            case 1:
            case 2:
            case 3:
                log("bus(true)");
                servo.bus(true);
                plain.bus(true);
                break;
            case 4:
                log("restart()");
                servo.restart();
                plain.restart();
                break;
            default:
                receive(random.nextInt(2060) - 5, random.nextInt(11) - 1, random.nextLong());
                break;
        }
    }

    private void drain() {
        for (int k = random.nextInt(13); k > 0; k--) {
            agree("take", servo.take() ? 1 : 0, plain.take() ? 1 : 0);
            log("take()");
            next();
        }
    }

    private void next() {
        agree("nextIdentifier", servo.nextIdentifier(), plain.nextIdentifier());
        agree("nextLength", servo.nextLength(), plain.nextLength());
        agree("nextData", servo.nextData(), plain.nextData());
    }

    private void look() {
        next();
        agree("waiting", servo.waiting(), plain.waiting());
        agree("lost", servo.lost(), plain.lost());
        agree("network", servo.network(), plain.network());
        agree("speed", servo.speed(), plain.speed());
        int index = of(INDEXES);
        int sub = random.nextInt(7) - 1;
        agree("object " + index + ":" + sub, servo.object(index, sub), plain.object(index, sub));
        int bank = random.nextInt(4) - 1;
        int place = random.nextInt(24) - 1;
        agree("word " + bank + ", " + place, servo.word(bank, place), plain.word(bank, place));
        agree("STATUS", servo.object(0x6041, 0), plain.object(0x6041, 0));
    }
}
