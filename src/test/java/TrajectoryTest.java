import java.util.Random;

/** Promises 3, 16 (speed) and 17 (position): the trajectory, against its rule written plainly. */
public final class TrajectoryTest {
    public static void main(String[] args) {
        known();
        quickStop();
        modeChange();
        limits();
        everyCap();
        Random random = new Random(20261115L);
        for (int k = 0; k < 400; k++) {
            compared(random);
        }
        Check.end();
    }

    private static Bench enabled(int rate, int quick, int top, int start) {
        Bench bench = new Bench(5);
        bench.set(0x6083, 0, 4, rate);
        bench.set(0x6085, 0, 4, quick);
        bench.set(0x607F, 0, 4, top);
        bench.powerTo(3, start);
        bench.control(15);
        return bench;
    }

    private static void moves(Bench bench, int[] speeds) {
        int place = bench.servo.position();
        for (int k = 0; k < speeds.length; k++) {
            bench.servo.run(1);
            place += speeds[k];
            Check.same("speed " + k, bench.servo.speed(), speeds[k]);
            Check.same("SPEED " + k, bench.servo.object(0x606B, 0), speeds[k]);
            Check.same("position " + k, bench.servo.position(), place);
        }
    }

    private static void known() {
        Bench bench = enabled(10, 50, 1000, 0);
        bench.set(0x607A, 0, 4, 100);
        // with 40 left: the stopping way of 23 is 39, that of 24 would be 42
        moves(bench, new int[] {10, 20, 30, 23, 13, 4, 0, 0});
        Check.same("there", bench.status() & 0x400, 0x400);
        bench.set(0x607A, 0, 4, 99);
        moves(bench, new int[] {-1, 0});
        Bench slowStop = enabled(50, 10, 1000, 0);
        slowStop.set(0x607A, 0, 4, 60);
        // QUICK is the lesser, so its steps are the ones of the stopping way
        moves(slowStop, new int[] {30, 20, 10, 0});
        Bench capped = enabled(100, 100, 1000, 0);
        capped.set(0x6081, 0, 4, 7);
        capped.set(0x607A, 0, 4, -20);
        moves(capped, new int[] {-7, -7, -6, 0});
        Bench top = enabled(100, 100, 6, 0);
        top.set(0x607A, 0, 4, 20);
        moves(top, new int[] {6, 6, 6, 2, 0});
        Bench speed = enabled(10, 50, 15, 0);
        speed.set(0x6060, 0, 1, 3);
        speed.set(0x60FF, 0, 4, -1000);
        moves(speed, new int[] {-10, -15, -15});
        speed.set(0x60FF, 0, 4, 12);
        moves(speed, new int[] {-5, 0, 10, 12, 12});
        speed.set(0x60FF, 0, 4, 0);
        moves(speed, new int[] {2, 0, 0});
    }

    private static void quickStop() {
        Bench bench = enabled(10, 30, 1000, 0);
        bench.set(0x607A, 0, 4, 100000);
        moves(bench, new int[] {10, 20, 30, 40, 50, 60, 70});
        bench.control(2);
        moves(bench, new int[] {40, 10, 0});
        Check.same("quick stop", bench.servo.power(), 5);
        bench.servo.tick(7);
        Check.same("stage off: the sample", bench.servo.position(), 7);
        Bench reacting = enabled(10, 30, 1000, 0);
        reacting.set(0x607A, 0, 4, -100000);
        moves(reacting, new int[] {-10, -20, -30, -40});
        reacting.servo.bus(false);
        moves(reacting, new int[] {-10, 0});
    }

    private static void modeChange() {
        Bench bench = enabled(10, 50, 1000, 0);
        bench.set(0x607A, 0, 4, 1000);
        moves(bench, new int[] {10, 20, 30});
        bench.set(0x607A, 0, 4, 60);
        moves(bench, new int[] {20, 10, 0, -10, -15, -5, 0});
        bench.set(0x607A, 0, 4, 70);
        moves(bench, new int[] {10});
        bench.set(0x607A, 0, 4, 1000);
        moves(bench, new int[] {20, 30, 40});
        bench.set(0x6081, 0, 4, 15);
        moves(bench, new int[] {30, 20, 15, 15});
        bench.set(0x6060, 0, 1, 3);
        moves(bench, new int[] {5, 0});
    }

    private static void limits() {
        Bench bench = new Bench(5);
        bench.set(0x607D, 1, 4, 50);
        bench.set(0x607D, 2, 4, -50);
        bench.set(0x6083, 0, 4, 1000);
        bench.set(0x6085, 0, 4, 1000);
        bench.powerTo(3, 0);
        bench.control(15);
        // FLOOR over CEILING: not under FLOOR
        moves(bench, new int[] {50, 0});
        Check.same("at FLOOR", bench.status() & 0x400, 0x400);
        bench.set(0x6060, 0, 1, 3);
        bench.set(0x60FF, 0, 4, 100);
        moves(bench, new int[] {0});
        bench.set(0x60FF, 0, 4, -30);
        moves(bench, new int[] {0});
        Bench ceiling = enabled(1000, 1000, 1000, 99950);
        ceiling.set(0x6060, 0, 1, 3);
        ceiling.set(0x60FF, 0, 4, 20);
        moves(ceiling, new int[] {20, 20, 10, 0, 0});
        Bench beyond = enabled(1000, 1000, 1000, 1000000);
        beyond.set(0x6060, 0, 1, 3);
        beyond.set(0x60FF, 0, 4, 20);
        moves(beyond, new int[] {0});
        beyond.set(0x60FF, 0, 4, -20);
        moves(beyond, new int[] {-20, -20});
        Bench floor = enabled(1000, 1000, 1000, -99950);
        floor.set(0x6060, 0, 1, 3);
        floor.set(0x60FF, 0, 4, -20);
        moves(floor, new int[] {-20, -20, -10, 0, 0});
    }

    private static void everyCap() {
        for (int cap = 1; cap <= 1000; cap++) {
            Bench bench = enabled(1000, 1000, cap, 0);
            bench.set(0x6060, 0, 1, 3);
            bench.set(0x60FF, 0, 4, cap % 2 == 0 ? 1000 : -1000);
            moves(bench, new int[] {cap % 2 == 0 ? cap : -cap});
        }
        Bench slow = enabled(1000, 1000, 1000, 0);
        slow.set(0x6060, 0, 1, 3);
        slow.set(0x60FF, 0, 4, 1);
        moves(slow, new int[] {1, 1});
        slow.set(0x60FF, 0, 4, -1);
        moves(slow, new int[] {0, -1, -1});
    }

    /** One drive with chance settings, whose targets change on the way. */
    private static void compared(Random random) {
        int[] scale = {2, 12, 100, 1000};
        int rate = 1 + random.nextInt(scale[random.nextInt(4)]);
        int quick = 1 + random.nextInt(scale[random.nextInt(4)]);
        int top = 1 + random.nextInt(scale[random.nextInt(4)]);
        int floor = -random.nextInt(3000);
        int ceiling = random.nextInt(3000);
        Bench bench = new Bench(5);
        bench.set(0x607D, 1, 4, floor);
        bench.set(0x607D, 2, 4, ceiling);
        bench.set(0x6083, 0, 4, rate);
        bench.set(0x6085, 0, 4, quick);
        bench.set(0x607F, 0, 4, top);
        bench.powerTo(3, random.nextInt(8000) - 4000);
        bench.control(15);
        int mode = 1;
        int target = 0;
        int profile = 100;
        int wanted = 0;
        int place = bench.servo.position();
        int speed = 0;
        for (int k = 0; k < 60; k++) {
            switch (random.nextInt(10)) {
                case 0:
                    mode = random.nextBoolean() ? 1 : 3;
                    bench.set(0x6060, 0, 1, mode);
                    break;
                case 1:
                    target = random.nextInt(8000) - 4000;
                    bench.set(0x607A, 0, 4, target);
                    break;
                case 2:
                    profile = 1 + random.nextInt(1000);
                    bench.set(0x6081, 0, 4, profile);
                    break;
                case 3:
                    wanted = random.nextInt(4) == 0 ? 0 : random.nextInt(2001) - 1000;
                    bench.set(0x60FF, 0, 4, wanted);
                    break;
                default:
                    break;
            }
            int aim = mode == 1 ? Math.max(floor, Math.min(target, ceiling)) : speedAim(wanted, place, floor, ceiling);
            int cap = Math.min(top, mode == 1 ? profile : Math.abs(wanted));
            speed = plainSpeed(new int[] {speed, aim - place, cap, rate, Math.min(rate, quick)});
            place += speed;
            bench.servo.run(1);
            Check.same("speed by the plain rule", bench.servo.speed(), speed);
            Check.same("position by the plain rule", bench.servo.position(), place);
        }
    }

    private static int speedAim(int wanted, int place, int floor, int ceiling) {
        if (wanted == 0) {
            return place;
        }
        return wanted > 0 ? Math.max(place, ceiling) : Math.min(place, floor);
    }

    /** Of SPEED, the way to the aim, the CAP, RATE and D. */
    private static int plainSpeed(int[] c) {
        int speed = c[0];
        int way = c[1];
        int rate = c[3];
        boolean away = speed != 0 && (way == 0 || Integer.signum(way) != Integer.signum(speed));
        if (away) {
            return Integer.signum(speed) * Math.max(0, Math.abs(speed) - rate);
        }
        int size = 0;
        for (int w = 0; w <= Math.min(c[2], Math.abs(speed) + rate); w++) {
            int stopping = 0;
            for (int term = w; term > 0; term -= c[4]) {
                stopping += term;
            }
            if (stopping <= Math.abs(way)) {
                size = w;
            }
        }
        return Integer.signum(way) * Math.max(size, Math.abs(speed) - rate);
    }
}
