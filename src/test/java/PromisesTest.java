/** One method for each promise: ordinary inputs, the edges that the document names, wrong inputs. */
public final class PromisesTest {
    private static final int MIN = Checks.MIN;
    private static final int MAX = Checks.MAX;

    public static void main(String[] args) {
        constants();
        promise1NewObject();
        promise2Append();
        promise3Count();
        promise4Start();
        promise5Figure();
        promise6Many();
        promise7Extreme();
        promise8Sum();
        promise9At();
        promise10Steepest();
        promise11Median();
        promise12Reach();
        promise13Sound();
        Checks.finish();
    }

    private static void constants() {
        Checks.due("BAD", RingSeries.BAD, -1);
        Checks.due("STALE", RingSeries.STALE, 1);
    }

    /** So many points, one in each coarse bucket, tell how much room each level has. */
    private static void dueRoom(String what, int given, int room) {
        RingSeries x = new RingSeries(given, given, given, 1, 2);
        for (int i = 0; i < 70; i++) {
            x.append(2 * i, i);
        }
        for (int level = 0; level <= 2; level++) {
            Checks.due("1: " + what + ", count(" + level + ")", x.count(level), room);
            Checks.due("1: " + what + ", start(" + level + ", 0)", x.start(level, 0), 2 * (70 - room));
        }
    }

    private static void dueWidths(int width, int k, int fineWidth, int coarseWidth) {
        String what = "1: width " + width + ", k " + k + ", ";
        RingSeries x = Checks.series(9, 9, 9, width, k, MAX, 1);
        Checks.due(what + "start(1, 0)", x.start(1, 0), MAX / fineWidth * (long) fineWidth);
        Checks.due(what + "start(2, 0)", x.start(2, 0), MAX / coarseWidth * (long) coarseWidth);
        RingSeries y = Checks.series(9, 9, 9, width, k, 0, 1, coarseWidth - 1, 1, coarseWidth, 1);
        Checks.due(what + "coarse buckets", y.count(2), 2);
        Checks.due(what + "points in the first", y.figure(2, 0, 3), 2);
    }

    private static void promise1NewObject() {
        int[][] rooms = {{MIN, 1}, {-1, 1}, {0, 1}, {1, 1}, {2, 2}, {59, 59}, {60, 60}, {61, 60}, {MAX, 60}};
        for (int[] room : rooms) {
            dueRoom("room " + room[0], room[0], room[1]);
        }
        dueWidths(MIN, MIN, 1, 2);
        dueWidths(0, 1, 1, 2);
        dueWidths(1, 2, 1, 2);
        dueWidths(7, 3, 7, 21);
        dueWidths(1_000_000, 1_000, 1_000_000, 1_000_000_000);
        dueWidths(1_000_001, 1_001, 1_000_000, 1_000_000_000);
        dueWidths(999_999, 999, 999_999, 998_999_001);
        dueWidths(MAX, MAX, 1_000_000, 1_000_000_000);
        RingSeries x = new RingSeries(3, 2, 1, 1, 2);
        for (int i = 0; i < 9; i++) {
            x.append(2 * i, i);
        }
        Checks.due("1: own room of points", x.count(0), 3);
        Checks.due("1: own room of level 1", x.count(1), 2);
        Checks.due("1: own room of level 2", x.count(2), 1);
    }

    private static void promise2Append() {
        RingSeries x = new RingSeries(3, 3, 3, 10, 2);
        Checks.due("2: append(-1, 5)", x.append(-1, 5), RingSeries.STALE);
        Checks.due("2: append(MIN, 5)", x.append(MIN, 5), RingSeries.STALE);
        Checks.due("2: nothing has come", x.count(0) + x.count(1) + x.count(2), 0);
        Checks.due("2: append(0, 5)", x.append(0, 5), 0);
        Checks.due("2: append(0, 6)", x.append(0, 6), RingSeries.STALE);
        Checks.due("2: append(7, 8)", x.append(7, 8), 0);
        Checks.due("2: append(6, 99)", x.append(6, 99), RingSeries.STALE);
        Checks.due("2: append(7, 99)", x.append(7, 99), RingSeries.STALE);
        Checks.due("2: append(-7, 99)", x.append(-7, 99), RingSeries.STALE);
        Checks.due("2: points stay", x.count(0), 2);
        for (int level = 1; level <= 2; level++) {
            Checks.due("2: sum stays", x.figure(level, 0, 2), 13);
            Checks.due("2: number stays", x.figure(level, 0, 3), 2);
            Checks.due("2: greatest stays", x.figure(level, 0, 1), 8);
        }
        Checks.due("2: append(MAX, 1)", x.append(MAX, 1), 0);
        Checks.due("2: append(MAX, 2)", x.append(MAX, 2), RingSeries.STALE);
        Checks.due("2: append(MIN, 2)", x.append(MIN, 2), RingSeries.STALE);
        Checks.due("2: value of the last", x.figure(0, 2, 0), 1);
    }

    private static void promise3Count() {
        RingSeries x = new RingSeries(4, 3, 2, 10, 3);
        for (int level = 0; level <= 2; level++) {
            Checks.due("3: new count(" + level + ")", x.count(level), 0);
        }
        int[] wrong = {-1, 3, 4, MIN, MAX};
        for (int level : wrong) {
            Checks.due("3: count(" + level + ")", x.count(level), RingSeries.BAD);
        }
        x.append(0, 1);
        x.append(9, 1);
        x.append(10, 1);
        Checks.due("3: count(0)", x.count(0), 3);
        Checks.due("3: count(1)", x.count(1), 2);
        Checks.due("3: count(2)", x.count(2), 1);
        x.append(1000, 1);
        x.append(2000, 1);
        Checks.due("3: full count(0)", x.count(0), 4);
        Checks.due("3: full count(1)", x.count(1), 3);
        Checks.due("3: full count(2)", x.count(2), 2);
    }

    private static void promise4Start() {
        RingSeries x = Checks.series(3, 2, 2, 10, 3, 5, 1, 9, 1, 10, 1, 34, 1, 95, 1);
        int[][] starts = {{10, 34, 95}, {30, 90}, {30, 90}};
        for (int level = 0; level <= 2; level++) {
            for (int i = 0; i < starts[level].length; i++) {
                Checks.due("4: start(" + level + ", " + i + ")", x.start(level, i), starts[level][i]);
            }
            int[] wrong = {-1, starts[level].length, 60, MIN, MAX};
            for (int i : wrong) {
                Checks.due("4: start(" + level + ", " + i + ")", x.start(level, i), RingSeries.BAD);
            }
        }
        Checks.due("4: start(-1, 0)", x.start(-1, 0), RingSeries.BAD);
        Checks.due("4: start(3, 0)", x.start(3, 0), RingSeries.BAD);
        Checks.due("4: new start(0, 0)", new RingSeries(3, 3, 3, 1, 2).start(0, 0), RingSeries.BAD);
    }

    private static void dueFigures(RingSeries x, int level, int i, int... figures) {
        for (int what = 0; what < figures.length; what++) {
            Checks.due("5: figure(" + level + ", " + i + ", " + what + ")", x.figure(level, i, what), figures[what]);
        }
    }

    private static void promise5Figure() {
        RingSeries x = Checks.series(2, 3, 3, 10, 2, 1, -5, 2, 7, 3, 4, 12, 9, 25, -1, 26, -8);
        dueFigures(x, 0, 0, -1, -1, -1, 1);
        dueFigures(x, 0, 1, -8, -8, -8, 1);
        dueFigures(x, 1, 0, -5, 7, 6, 3);
        dueFigures(x, 1, 1, 9, 9, 9, 1);
        dueFigures(x, 1, 2, -8, -1, -9, 2);
        dueFigures(x, 2, 0, -5, 9, 15, 4);
        dueFigures(x, 2, 1, -8, -1, -9, 2);
        int[][] wrong = {{0, 2, 0}, {0, -1, 3}, {1, 3, 3}, {2, 2, 1}, {2, MAX, 3}, {1, MIN, 3}, {-1, 0, 3},
            {3, 0, 3}, {0, 0, 4}, {1, 0, -1}, {2, 0, MIN}, {2, 0, MAX}};
        for (int[] w : wrong) {
            Checks.due("5: figure(" + w[0] + ", " + w[1] + ", " + w[2] + ")", x.figure(w[0], w[1], w[2]), 0);
        }
        RingSeries wraps = Checks.series(5, 5, 5, 10, 2, 0, MAX, 1, MAX, 2, 3);
        dueFigures(wraps, 1, 0, 3, MAX, 1, 3);
        dueFigures(wraps, 2, 0, 3, MAX, 1, 3);
        RingSeries refilled = Checks.series(1, 1, 1, 1, 2, 0, -9, 1, 9, 4, 2);
        dueFigures(refilled, 1, 0, 2, 2, 2, 1);
        dueFigures(refilled, 2, 0, 2, 2, 2, 1);
    }

    private static void promise6Many() {
        RingSeries x = Checks.series(3, 3, 3, 10, 2, 0, 1, 5, 1, 6, 1, MAX, 1);
        Checks.due("6: many(MIN, MAX)", x.many(MIN, MAX), 3);
        Checks.due("6: many(0, 4), the point is gone", x.many(0, 4), 0);
        Checks.due("6: many(5, 6)", x.many(5, 6), 2);
        Checks.due("6: many(5, 5)", x.many(5, 5), 1);
        Checks.due("6: many(6, 6)", x.many(6, 6), 1);
        Checks.due("6: many(6, 5)", x.many(6, 5), 0);
        Checks.due("6: many(MAX, MAX)", x.many(MAX, MAX), 1);
        Checks.due("6: many(7, MAX - 1)", x.many(7, MAX - 1), 0);
        Checks.due("6: many(MAX, MIN)", x.many(MAX, MIN), 0);
        Checks.due("6: new many", new RingSeries(3, 3, 3, 1, 2).many(MIN, MAX), 0);
    }

    private static void promise7Extreme() {
        RingSeries x = Checks.series(4, 3, 3, 10, 2, 0, 99, 1, -4, 2, -9, 3, -2, 4, -7);
        Checks.due("7: extreme(0, 9, 1)", x.extreme(0, 9, 1), -2);
        Checks.due("7: extreme(0, 9, -1)", x.extreme(0, 9, -1), -9);
        Checks.due("7: extreme(3, 4, -1)", x.extreme(3, 4, -1), -7);
        Checks.due("7: extreme(1, 2, 1)", x.extreme(1, 2, 1), -4);
        Checks.due("7: extreme(2, 2, 1)", x.extreme(2, 2, 1), -9);
        Checks.due("7: extreme(5, 9, 1)", x.extreme(5, 9, 1), 0);
        Checks.due("7: extreme(4, 1, -1)", x.extreme(4, 1, -1), 0);
        int[] wrong = {0, 2, -2, MIN, MAX};
        for (int sign : wrong) {
            Checks.due("7: extreme(0, 9, " + sign + ")", x.extreme(0, 9, sign), 0);
        }
        RingSeries far = Checks.series(4, 3, 3, 10, 2, 0, MAX, 1, MIN);
        Checks.due("7: least of all", far.extreme(MIN, MAX, -1), MIN);
        Checks.due("7: greatest of all", far.extreme(MIN, MAX, 1), MAX);
    }

    private static void promise8Sum() {
        RingSeries x = Checks.series(3, 3, 3, 10, 2, 0, 50, 1, MAX, 2, MAX, 3, 4);
        Checks.due("8: sum(0, 9)", x.sum(0, 9), 2L * MAX + 4);
        Checks.due("8: sum(2, 3)", x.sum(2, 3), MAX + 4L);
        Checks.due("8: sum(3, 3)", x.sum(3, 3), 4);
        Checks.due("8: sum(3, 2)", x.sum(3, 2), 0);
        Checks.due("8: sum(0, 0)", x.sum(0, 0), 0);
        RingSeries y = new RingSeries(60, 3, 3, 10, 2);
        for (int i = 0; i < 60; i++) {
            y.append(i, MIN);
        }
        Checks.due("8: sum of sixty", y.sum(MIN, MAX), 60L * MIN);
    }

    private static void promise9At() {
        RingSeries x = Checks.series(4, 3, 3, 10, 2, 0, 7, 10, 4, 20, -3, 23, 10, 30, 9);
        Checks.due("9: at(9, false), the point is gone", x.at(9, false), 0);
        Checks.due("9: at(9, true)", x.at(9, true), 0);
        Checks.due("9: at(MIN, true)", x.at(MIN, true), 0);
        Checks.due("9: at(10, false)", x.at(10, false), 4);
        Checks.due("9: at(10, true)", x.at(10, true), 4);
        Checks.due("9: at(19, false)", x.at(19, false), 4);
        Checks.due("9: at(11, true)", x.at(11, true), 4);
        Checks.due("9: at(12, true)", x.at(12, true), 3);
        Checks.due("9: at(19, true)", x.at(19, true), -2);
        Checks.due("9: at(20, true)", x.at(20, true), -3);
        Checks.due("9: at(21, true)", x.at(21, true), 1);
        Checks.due("9: at(22, true)", x.at(22, true), 5);
        Checks.due("9: at(22, false)", x.at(22, false), -3);
        Checks.due("9: at(29, true)", x.at(29, true), 10);
        Checks.due("9: at(30, true)", x.at(30, true), 9);
        Checks.due("9: at(31, true)", x.at(31, true), 9);
        Checks.due("9: at(MAX, true)", x.at(MAX, true), 9);
        Checks.due("9: at(MAX, false)", x.at(MAX, false), 9);
        RingSeries far = Checks.series(4, 3, 3, 10, 2, 0, MIN, MAX, MAX);
        Checks.due("9: far up, at(1, true)", far.at(1, true), MIN + 2);
        Checks.due("9: far up, at(MAX - 1, true)", far.at(MAX - 1, true), MAX - 3);
        Checks.due("9: far up, at(MAX, true)", far.at(MAX, true), MAX);
        RingSeries down = Checks.series(4, 3, 3, 10, 2, 0, MAX, MAX, MIN);
        Checks.due("9: far down, at(MAX - 1, true)", down.at(MAX - 1, true), MIN + 3);
        Checks.due("9: far down, at(1, true)", down.at(1, true), MAX - 2);
    }

    private static void promise10Steepest() {
        RingSeries x = Checks.series(5, 3, 3, 10, 2, 0, -90, 1, 0, 2, 3, 3, 1, 4, 4, 5, -9);
        Checks.due("10: steepest(0, 9), of like ones the first", x.steepest(0, 9), 1);
        Checks.due("10: steepest(2, 9)", x.steepest(2, 9), 3);
        Checks.due("10: steepest(2, 3), one that falls", x.steepest(2, 3), 2);
        Checks.due("10: steepest(4, 5)", x.steepest(4, 5), 4);
        Checks.due("10: steepest(5, 5)", x.steepest(5, 5), RingSeries.BAD);
        Checks.due("10: steepest(6, 9)", x.steepest(6, 9), RingSeries.BAD);
        Checks.due("10: steepest(0, 1), the earlier is gone", x.steepest(0, 1), RingSeries.BAD);
        Checks.due("10: steepest(5, 1)", x.steepest(5, 1), RingSeries.BAD);
        RingSeries falls = Checks.series(5, 3, 3, 10, 2, 0, 0, 1, -5, 2, -7, 3, -11);
        Checks.due("10: the one that falls least", falls.steepest(0, 9), 2);
        RingSeries far = Checks.series(5, 3, 3, 10, 2, 0, 0, 1, 5, 2, MIN, 3, MAX);
        Checks.due("10: a rise of more than 32 bits", far.steepest(0, 9), 3);
        RingSeries deep = Checks.series(5, 3, 3, 10, 2, 0, MAX, 1, MIN, 2, MIN);
        Checks.due("10: a fall of more than 32 bits", deep.steepest(0, 9), 2);
    }

    private static void promise11Median() {
        RingSeries x = Checks.series(5, 3, 3, 10, 2, 0, 1000, 1, 8, 2, -6, 3, 5, 4, 5, 5, -2);
        Checks.due("11: median(0, 9)", x.median(0, 9), 5);
        Checks.due("11: median(1, 4)", x.median(1, 4), 5);
        Checks.due("11: median(1, 2), of two the lesser", x.median(1, 2), -6);
        Checks.due("11: median(2, 5)", x.median(2, 5), -2);
        Checks.due("11: median(1, 3)", x.median(1, 3), 5);
        Checks.due("11: median(1, 1)", x.median(1, 1), 8);
        Checks.due("11: median(0, 0), the point is gone", x.median(0, 0), 0);
        Checks.due("11: median(3, 1)", x.median(3, 1), 0);
        Checks.due("11: again median(0, 9)", x.median(0, 9), 5);
        Checks.due("11: entries stay in their order", x.figure(0, 0, 0), 8);
        RingSeries far = Checks.series(5, 3, 3, 10, 2, 0, MAX, 1, MIN, 2, 0);
        Checks.due("11: far values", far.median(MIN, MAX), 0);
    }

    private static void promise12Reach() {
        // Kept: points 47 .. 50; level 1 from 20 on; level 2 from 0 on.
        RingSeries x = Checks.series(4, 4, 9, 10, 2, 1, 1, 5, 1, 12, 1, 21, 1, 28, 1, 33, 1, 41, 1, 47, 1, 48, 1, 49, 1, 50, 1);
        Checks.due("12: reach(MIN, MAX)", x.reach(MIN, MAX), 4 + 3 + 3);
        Checks.due("12: reach(0, 50)", x.reach(0, 50), 10);
        Checks.due("12: reach(1, 50), a coarse one cut", x.reach(1, 50), 7);
        Checks.due("12: reach(0, 49)", x.reach(0, 49), 9);
        Checks.due("12: reach(0, 46)", x.reach(0, 46), 6);
        Checks.due("12: reach(20, 39)", x.reach(20, 39), 3);
        Checks.due("12: reach(21, 39), a fine one cut", x.reach(21, 39), 1);
        Checks.due("12: reach(20, 38), a fine one cut", x.reach(20, 38), 2);
        Checks.due("12: reach(20, 29)", x.reach(20, 29), 2);
        Checks.due("12: reach(0, 19)", x.reach(0, 19), 3);
        Checks.due("12: reach(0, 18)", x.reach(0, 18), 0);
        Checks.due("12: reach(40, 46), the bucket goes on past the first point", x.reach(40, 46), 0);
        Checks.due("12: reach(48, 48)", x.reach(48, 48), 1);
        Checks.due("12: reach(50, 0)", x.reach(50, 0), 0);
        Checks.due("12: new reach", new RingSeries(4, 4, 4, 10, 2).reach(MIN, MAX), 0);
        // A fine bucket that ends just before the first point, and one that holds it.
        RingSeries edge = Checks.series(1, 9, 9, 10, 2, 3, 1, 10, 1);
        Checks.due("12: wholly before", edge.reach(0, 99), 2);
        RingSeries in = Checks.series(1, 9, 9, 10, 2, 3, 1, 9, 1);
        Checks.due("12: not wholly before", in.reach(0, 99), 1);
        // Level 1 begins after the first point: the coarse bucket from 20 on goes past that one.
        RingSeries late = Checks.series(3, 1, 9, 10, 2, 5, 1, 22, 1, 25, 1, 39, 1, 60, 1);
        Checks.due("12: late level 1", late.reach(0, 99), 1 + 3);
        // The coarse bucket 0 .. 39 is before the first point, but goes past level 1's beginning.
        RingSeries over = Checks.series(1, 2, 9, 10, 4, 1, 1, 31, 1, 45, 1);
        Checks.due("12: coarse over level 1's beginning", over.reach(0, 99), 1 + 1);
        // The coarse bucket 0 .. 1 ends in the very time at which level 1 begins.
        RingSeries meets = Checks.series(1, 2, 9, 1, 2, 0, 1, 1, 1, 5, 1);
        Checks.due("12: coarse ends where level 1 begins", meets.reach(0, 99), 1 + 1);
        RingSeries last = Checks.series(1, 1, 9, 1_000_000, 1_000, 1, 1, 1_500_000_000, 1, MAX, 1);
        Checks.due("12: the last times", last.reach(0, MAX), 1 + 2);
    }

    private static void promise13Sound() {
        Checks.due("13: new sound()", new RingSeries(3, 3, 3, 10, 2).sound(), true);
        int[] rooms = {1, 2, 5, 60};
        for (int points : rooms) {
            for (int fine : rooms) {
                for (int coarse : rooms) {
                    dueSound(points, fine, coarse);
                }
            }
        }
        Checks.due("13: sums that wrap", Checks.series(9, 9, 9, 2, 2, 0, MAX, 1, MAX, 2, MAX, 3, MAX).sound(), true);
    }

    private static void dueSound(int points, int fine, int coarse) {
        RingSeries x = new RingSeries(points, fine, coarse, 3, 2);
        for (int i = 0; i < 150; i++) {
            x.append(i + i % 4, i * i % 31 - 15);
            Checks.due("13: sound() after " + i, x.sound(), true);
        }
    }
}
