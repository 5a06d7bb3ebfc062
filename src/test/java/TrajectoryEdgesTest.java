/** The term THE TRAJECTORY: each sentence of it that names an edge, with a test of its own. */
public final class TrajectoryEdgesTest {
    public static void main(String[] args) {
        aimOfModeOne();
        aimNotUnderFloor();
        capOfModeOne();
        capOfModeThree();
        aimForZero();
        aimForMore();
        aimForLess();
        atTheAimWithSpeed();
        directedAway();
        towardsTheAim();
        notOverSpeedAndRate();
        notOverTheCap();
        stoppingWayNotOver();
        notLessThanSpeedWithoutRate();
        positiveTerms();
        lesserOfRateAndQuick();
        Check.end();
    }

    /** A drive in 3 at this place, which the next tick enables. */
    private static Bench drive(int rate, int quick, int place) {
        Bench bench = new Bench(5);
        bench.set(0x6083, 0, 4, rate);
        bench.set(0x6085, 0, 4, quick);
        bench.powerTo(3, place);
        bench.control(15);
        return bench;
    }

    private static Bench limited(int floor, int ceiling, int place) {
        Bench bench = drive(1000, 1000, place);
        bench.set(0x607D, 1, 4, floor);
        bench.set(0x607D, 2, 4, ceiling);
        bench.set(0x6081, 0, 4, 1000);
        return bench;
    }

    private static void moves(Bench bench, int... speeds) {
        int place = bench.servo.position();
        for (int k = 0; k < speeds.length; k++) {
            bench.servo.run(1);
            place += speeds[k];
            Check.same("SPEED of tick " + k, bench.servo.speed(), speeds[k]);
            Check.same("P of tick " + k, bench.servo.position(), place);
        }
    }

    private static void aimOfModeOne() {
        Check.sentence("MODE 1: the AIM is the lesser of TARGET and CEILING");
        int[][] rows = {{99, 99}, {100, 100}, {101, 100}, {100000, 100}, {-5, -5}};
        for (int[] row : rows) {
            Bench bench = limited(-100000, 100, 0);
            bench.set(0x607A, 0, 4, row[0]);
            moves(bench, row[1], 0, 0);
            Check.same("P is the AIM", bench.status(), 0x427);
        }
    }

    private static void aimNotUnderFloor() {
        Check.sentence("but not under FLOOR");
        int[][] rows = {{-99, -99}, {-100, -100}, {-101, -100}, {-100000, -100}};
        for (int[] row : rows) {
            Bench bench = limited(-100, 100000, 0);
            bench.set(0x607A, 0, 4, row[0]);
            moves(bench, row[1], 0, 0);
            Check.same("P is the AIM", bench.status(), 0x427);
        }
        Bench crossed = limited(40, -40, 0);
        moves(crossed, 40, 0);
        Check.same("FLOOR over CEILING: FLOOR", crossed.status(), 0x427);
    }

    private static void capOfModeOne() {
        Check.sentence("the CAP is the lesser of PROFILE and TOP");
        int[][] rows = {{7, 1000, 7}, {1000, 7, 7}, {7, 7, 7}, {7, 8, 7}, {1, 1000, 1}, {1000, 1, 1}, {1000, 1000, 1000}};
        for (int[] row : rows) {
            Bench bench = drive(1000, 1000, 0);
            bench.set(0x6081, 0, 4, row[0]);
            bench.set(0x607F, 0, 4, row[1]);
            bench.set(0x607A, 0, 4, 100000);
            moves(bench, row[2], row[2]);
        }
        for (int cap = 1; cap <= 1000; cap++) {
            Bench bench = drive(1000, 1000, 0);
            bench.set(0x6081, 0, 4, cap);
            bench.set(0x607A, 0, 4, 100000);
            moves(bench, cap);
        }
    }

    private static void capOfModeThree() {
        Check.sentence("MODE 3 with TARGET SPEED u: the CAP is the lesser of |u| and TOP");
        int[][] rows = {{9, 1000, 9}, {-9, 1000, -9}, {1000, 9, 9}, {-1000, 9, -9}, {1, 1, 1}, {-1000, 1000, -1000}};
        for (int[] row : rows) {
            Bench bench = drive(1000, 1000, 0);
            bench.set(0x6060, 0, 1, 3);
            bench.set(0x6081, 0, 4, 2);
            bench.set(0x607A, 0, 4, row[2] > 0 ? -100000 : 100000);
            bench.set(0x60FF, 0, 4, row[0]);
            bench.set(0x607F, 0, 4, row[1]);
            moves(bench, row[2], row[2]);
        }
    }

    private static void aimForZero() {
        Check.sentence("the AIM is P for u = 0");
        Bench bench = drive(10, 50, 0);
        bench.set(0x6060, 0, 1, 3);
        bench.set(0x607A, 0, 4, 100000);
        moves(bench, 0, 0);
        bench.set(0x60FF, 0, 4, 25);
        moves(bench, 10, 20, 25);
        bench.set(0x60FF, 0, 4, 0);
        moves(bench, 15, 5, 0, 0);
        Check.same("STATUS", bench.status(), 0x27);
    }

    private static void aimForMore() {
        Check.sentence("for u > 0 the greater of P and CEILING");
        Bench below = limited(-100000, 50, 0);
        below.set(0x6060, 0, 1, 3);
        below.set(0x60FF, 0, 4, 20);
        moves(below, 20, 20, 10, 0, 0);
        for (int place : new int[] {50, 51, 1000000}) {
            Bench bench = limited(-100000, 50, place);
            bench.set(0x6060, 0, 1, 3);
            bench.set(0x60FF, 0, 4, 20);
            bench.servo.tick(place);
            Check.same("P is CEILING or more: SPEED", bench.servo.speed(), 0);
            Check.same("P", bench.servo.position(), place);
        }
        Bench back = limited(-100000, 50, 70);
        back.set(0x6060, 0, 1, 3);
        back.set(0x60FF, 0, 4, -20);
        moves(back, -20, -20);
    }

    private static void aimForLess() {
        Check.sentence("for u < 0 the lesser of P and FLOOR");
        Bench above = limited(-50, 100000, 0);
        above.set(0x6060, 0, 1, 3);
        above.set(0x60FF, 0, 4, -20);
        moves(above, -20, -20, -10, 0, 0);
        for (int place : new int[] {-50, -51, -1000000}) {
            Bench bench = limited(-50, 100000, place);
            bench.set(0x6060, 0, 1, 3);
            bench.set(0x60FF, 0, 4, -20);
            bench.servo.tick(place);
            Check.same("P is FLOOR or less: SPEED", bench.servo.speed(), 0);
            Check.same("P", bench.servo.position(), place);
        }
        Bench back = limited(-50, 100000, -70);
        back.set(0x6060, 0, 1, 3);
        back.set(0x60FF, 0, 4, 20);
        moves(back, 20, 20);
    }

    private static void atTheAimWithSpeed() {
        Check.sentence("If SPEED is not 0 and P is the aim");
        for (int sign = -1; sign <= 1; sign += 2) {
            Bench bench = drive(10, 50, 0);
            bench.set(0x607A, 0, 4, sign * 100000);
            moves(bench, sign * 10, sign * 20, sign * 30);
            bench.set(0x607A, 0, 4, sign * 60);
            moves(bench, sign * 20, sign * 10, 0, sign * -10);
        }
        Bench still = drive(10, 50, 60);
        still.set(0x607A, 0, 4, 60);
        still.servo.tick(60);
        Check.same("SPEED 0 at the aim stays 0", still.servo.speed(), 0);
        Check.same("P", still.servo.position(), 60);
    }

    private static void directedAway() {
        Check.sentence("or SPEED is directed away from it, SPEED comes nearer to 0 by RATE, not passing 0");
        for (int sign = -1; sign <= 1; sign += 2) {
            Bench bench = drive(30, 1000, 0);
            bench.set(0x607A, 0, 4, sign * 100000);
            moves(bench, sign * 30, sign * 60, sign * 90, sign * 100);
            bench.set(0x607A, 0, 4, sign * -100000);
            moves(bench, sign * 70, sign * 40, sign * 10, 0, sign * -30);
        }
        for (int sign = -1; sign <= 1; sign += 2) {
            Bench slow = drive(1, 1, 0);
            slow.set(0x607A, 0, 4, sign * 100);
            moves(slow, sign);
            slow.set(0x607A, 0, 4, sign * -100);
            moves(slow, 0, -sign);
        }
        Bench turned = drive(1000, 1000, 0);
        turned.set(0x6060, 0, 1, 3);
        turned.set(0x60FF, 0, 4, 500);
        moves(turned, 500);
        turned.set(0x60FF, 0, 4, -500);
        moves(turned, 0, -500);
    }

    private static void towardsTheAim() {
        Check.sentence("Otherwise the new SPEED is directed towards the aim");
        Bench up = drive(10, 50, 0);
        up.set(0x607A, 0, 4, 1);
        moves(up, 1, 0);
        up.set(0x607A, 0, 4, 0);
        moves(up, -1, 0);
        Bench down = drive(10, 50, 100);
        down.servo.tick(100);
        Check.same("SPEED", down.servo.speed(), -10);
    }

    private static void notOverSpeedAndRate() {
        Check.sentence("as great as the greatest w (0, 1, ..) that is not over |SPEED| + RATE");
        for (int rate : new int[] {1, 7, 1000}) {
            Bench bench = drive(rate, 1000, 0);
            bench.set(0x6081, 0, 4, 1000);
            bench.set(0x607A, 0, 4, -100000);
            moves(bench, -rate, -Math.min(1000, 2 * rate), -Math.min(1000, 3 * rate));
        }
    }

    private static void notOverTheCap() {
        Check.sentence("not over the CAP");
        Bench bench = drive(10, 50, 0);
        bench.set(0x607A, 0, 4, 100000);
        bench.set(0x6081, 0, 4, 25);
        moves(bench, 10, 20, 25, 25);
        bench.set(0x6081, 0, 4, 26);
        moves(bench, 26, 26);
        bench.set(0x6081, 0, 4, 20);
        moves(bench, 20, 20);
    }

    private static void stoppingWayNotOver() {
        Check.sentence("and whose STOPPING WAY is not over |AIM - P|");
        int[][] rows = {{16, 5}, {15, 5}, {14, 4}, {10, 4}, {9, 3}, {6, 3}, {5, 2}, {3, 2}, {2, 1}, {1, 1}};
        for (int[] row : rows) {
            for (int sign = -1; sign <= 1; sign += 2) {
                Bench bench = drive(5, 1, 0);
                bench.set(0x607A, 0, 4, sign * row[0]);
                moves(bench, sign * row[1]);
            }
        }
        Bench exact = drive(5, 1, 0);
        exact.set(0x607A, 0, 4, 15);
        moves(exact, 5, 4, 3, 2, 1, 0, 0);
        Check.same("there", exact.status(), 0x427);
    }

    private static void notLessThanSpeedWithoutRate() {
        Check.sentence("but not less than |SPEED| - RATE");
        for (int sign = -1; sign <= 1; sign += 2) {
            Bench near = drive(10, 50, 0);
            near.set(0x607A, 0, 4, sign * 100000);
            moves(near, sign * 10, sign * 20, sign * 30, sign * 40);
            near.set(0x607A, 0, 4, sign * 101);
            moves(near, sign * 30, sign * 20);
            Bench capped = drive(10, 50, 0);
            capped.set(0x607A, 0, 4, sign * 100000);
            moves(capped, sign * 10, sign * 20, sign * 30, sign * 40);
            capped.set(0x6081, 0, 4, 1);
            moves(capped, sign * 30, sign * 20, sign * 10, sign, sign);
            Bench fast = drive(1000, 1000, 0);
            fast.set(0x607A, 0, 4, sign * 100000);
            moves(fast, sign * 100);
            fast.set(0x607A, 0, 4, sign * 101);
            moves(fast, sign, 0);
        }
    }

    private static void positiveTerms() {
        Check.sentence("The stopping way of w is w + (w - D) + (w - 2D) + .. as long as the terms are positive");
        int[][] rows = {{9, 5}, {8, 4}, {6, 4}, {5, 3}, {4, 3}, {3, 2}, {2, 2}, {1, 1}};
        for (int[] row : rows) {
            Bench bench = drive(5, 2, 0);
            bench.set(0x607A, 0, 4, row[0]);
            moves(bench, row[1]);
        }
        Bench one = drive(1000, 1000, 0);
        one.set(0x6081, 0, 4, 1000);
        one.set(0x607A, 0, 4, 999);
        moves(one, 999, 0);
        Bench longest = drive(1000, 1, 0);
        longest.set(0x6081, 0, 4, 1000);
        longest.set(0x607A, 0, 4, 100000);
        // 446 * 447 / 2 is 99681, 447 * 448 / 2 is 100128
        moves(longest, 446);
    }

    private static void lesserOfRateAndQuick() {
        Check.sentence("D is the lesser of RATE and QUICK");
        Bench rate = drive(2, 50, 0);
        rate.set(0x607A, 0, 4, 6);
        moves(rate, 2, 3, 1, 0);
        Bench quick = drive(50, 2, 0);
        quick.set(0x607A, 0, 4, 9);
        moves(quick, 5, 3, 1, 0);
        Bench both = drive(3, 3, 0);
        both.set(0x607A, 0, 4, 12);
        moves(both, 3, 6, 3, 0);
    }
}
