/** The boundary cases of promise 12, reach: where one level ends and the next one begins. */
public final class ReachEdgesTest {
    private static final int MIN = Checks.MIN;
    private static final int MAX = Checks.MAX;

    public static void main(String[] args) {
        nothingHasCome();
        allPointsAreKept();
        pointsFromTheFirstOnesTimeOn();
        fineBucketsWhollyBeforeThatTime();
        fineBucketsWhollyInTheSpan();
        fineBucketsFromTheFirstOnesBeginningOn();
        coarseBucketsWhollyInTheSpan();
        coarseBucketsWhollyBeforeLevel1sBeginning();
        coarseBucketsBeforeThatTime();
        coarseBucketsThatAreGone();
        noPointTwice();
        spansThatEndBeforeTheyBegin();
        bucketsThatEndAfterTheLastTime();
        Checks.finish();
    }

    private static void dueReach(String what, RingSeries x, int from, int to, long want) {
        Checks.due(what + ", reach(" + from + ", " + to + ")", x.reach(from, to), want);
    }

    private static void nothingHasCome() {
        Checks.sentence("12, how many points of a span are known to have come: none");
        RingSeries[] all = {new RingSeries(1, 1, 1, 1, 2), new RingSeries(60, 60, 60, 1_000_000, 1_000)};
        for (RingSeries x : all) {
            dueReach("new", x, MIN, MAX, 0);
            dueReach("new", x, 0, 0, 0);
            dueReach("new", x, MIN, -1, 0);
        }
        RingSeries refused = new RingSeries(3, 3, 3, 10, 2);
        refused.append(-1, 5);
        dueReach("refused", refused, MIN, MAX, 0);
    }

    private static void allPointsAreKept() {
        Checks.sentence("12, by the finest level for each time");
        RingSeries x = Checks.series(9, 9, 9, 10, 2, 0, 1, 9, 1, 10, 1, 25, 1, 40, 1);
        int[][] spans = {{MIN, MAX}, {0, 40}, {1, 39}, {0, 0}, {9, 10}, {11, 24}, {11, 25}, {25, 25}, {26, 39}, {41, MAX}};
        for (int[] span : spans) {
            dueReach("as many()", x, span[0], span[1], x.many(span[0], span[1]));
        }
        dueReach("cut within buckets", x, 5, 12, 2);
    }

    private static void pointsFromTheFirstOnesTimeOn() {
        Checks.sentence("12, points of level 0 from its first one's time on");
        // Kept: the points 25 and 28, with 21 gone from the same fine bucket.
        RingSeries x = Checks.series(2, 9, 9, 10, 2, 21, 1, 25, 1, 28, 1);
        dueReach("both ends", x, 25, 28, 2);
        dueReach("cut", x, 26, 28, 1);
        dueReach("cut", x, 25, 27, 1);
        dueReach("between", x, 26, 27, 0);
        dueReach("before it, in the same bucket", x, 20, 24, 0);
        dueReach("the bucket that holds it", x, 20, 29, 2);
        dueReach("all", x, MIN, MAX, 2);
    }

    private static void fineBucketsWhollyBeforeThatTime() {
        Checks.sentence("12, buckets of level 1 that lie wholly before that time");
        dueReach("ends just before it", Checks.series(1, 9, 9, 10, 2, 3, 1, 10, 1), MIN, MAX, 2);
        dueReach("ends in it", Checks.series(1, 9, 9, 10, 2, 3, 1, 9, 1), MIN, MAX, 1);
        dueReach("goes on past it", Checks.series(1, 9, 9, 10, 2, 3, 1, 8, 1), MIN, MAX, 1);
        dueReach("begins in it", Checks.series(1, 9, 9, 10, 2, 3, 1, 10, 1), 10, MAX, 1);
        dueReach("long before it", Checks.series(1, 9, 9, 10, 2, 3, 1, 1_000, 1), MIN, MAX, 2);
        dueReach("of width 1", Checks.series(1, 9, 9, 1, 2, 3, 1, 4, 1, 5, 1), MIN, MAX, 3);
        // Points 4 and 12 are gone; 12 shares its bucket with the first one that is kept.
        dueReach("one before, one past it", Checks.series(2, 9, 9, 10, 2, 4, 1, 12, 1, 15, 1, 33, 1), MIN, MAX, 3);
    }

    private static void fineBucketsWhollyInTheSpan() {
        Checks.sentence("12, buckets of level 1 wholly in the span");
        // Kept: the point 45; the fine buckets from 0 (1 point), 10 (2), 20 (3) and 40 on.
        RingSeries x = Checks.series(1, 9, 9, 10, 2, 5, 1, 11, 1, 18, 1, 20, 1, 25, 1, 29, 1, 45, 1);
        int[][] spans = {{10, 19, 2}, {9, 19, 2}, {11, 19, 0}, {10, 18, 0}, {10, 20, 2}, {10, 28, 2}, {10, 29, 5},
            {11, 29, 3}, {0, 29, 6}, {1, 29, 5}, {-1, 29, 6}, {MIN, 29, 6}, {MIN, 28, 3}, {MIN, 9, 1}, {MIN, 8, 0},
            {20, 29, 3}, {21, 28, 0}, {20, 44, 3}, {20, 45, 4}, {21, 45, 1}, {29, 45, 1}, {30, 44, 0}, {0, 45, 7}};
        for (int[] span : spans) {
            dueReach("three buckets", x, span[0], span[1], span[2]);
        }
    }

    private static void fineBucketsFromTheFirstOnesBeginningOn() {
        Checks.sentence("12, buckets of level 1, from the first one's beginning on");
        // Kept: the point 45; the fine buckets from 20 (1 point) and 40 on; the coarse ones from 0 (2), 20 and 40 on.
        RingSeries x = Checks.series(1, 2, 9, 10, 2, 5, 1, 11, 1, 22, 1, 45, 1);
        dueReach("from it", x, 20, MAX, 2);
        dueReach("just after it", x, 21, MAX, 1);
        dueReach("just before it", x, 19, MAX, 2);
        dueReach("a fine bucket that is gone", x, 10, 19, 0);
        dueReach("a fine bucket that is gone", x, 0, 9, 0);
        dueReach("its coarse one", x, 0, 19, 2);
        dueReach("a coarse one that level 1 tells", x, 20, 39, 1);
    }

    private static void coarseBucketsWhollyInTheSpan() {
        Checks.sentence("12, buckets of level 2 likewise (wholly in the span)");
        // Kept: the point 95; the fine bucket from 90 on; the coarse ones from 0 (1 point), 20 (2), 40 (3) and 80 on.
        RingSeries x = Checks.series(1, 1, 9, 10, 2, 5, 1, 21, 1, 38, 1, 40, 1, 55, 1, 59, 1, 95, 1);
        int[][] spans = {{20, 39, 2}, {19, 39, 2}, {21, 39, 0}, {20, 38, 0}, {20, 40, 2}, {20, 58, 2}, {20, 59, 5},
            {21, 59, 3}, {0, 59, 6}, {1, 59, 5}, {MIN, 59, 6}, {MIN, 58, 3}, {MIN, 19, 1}, {MIN, 18, 0}, {40, 94, 3},
            {40, 95, 4}, {41, 95, 1}, {60, 94, 0}, {0, 95, 7}, {MIN, MAX, 7}};
        for (int[] span : spans) {
            dueReach("three buckets", x, span[0], span[1], span[2]);
        }
    }

    private static void coarseBucketsWhollyBeforeLevel1sBeginning() {
        Checks.sentence("12, buckets of level 2 wholly before level 1's beginning");
        // Level 1 begins at 40, the only point that is kept is 90.
        dueReach("ends just before it", Checks.series(1, 2, 9, 10, 2, 5, 1, 25, 1, 45, 1, 90, 1), MIN, MAX, 4);
        // Level 1 begins at 30, within the coarse bucket 20 .. 39: 25 is told by no level.
        RingSeries past = Checks.series(1, 2, 9, 10, 2, 5, 1, 25, 1, 35, 1, 90, 1);
        dueReach("goes on past it", past, MIN, MAX, 3);
        dueReach("goes on past it", past, 20, 39, 1);
        // Level 1 begins at 1, the last unit of the coarse bucket 0 .. 1.
        dueReach("ends in it", Checks.series(1, 2, 9, 1, 2, 0, 1, 1, 1, 5, 1), MIN, MAX, 2);
        // Level 1 begins at 2: the coarse bucket 0 .. 1 ends just before it.
        dueReach("of the least width", Checks.series(1, 2, 9, 1, 2, 0, 1, 2, 1, 5, 1), MIN, MAX, 3);
        // Level 1 begins where a coarse bucket does: that one is level 1's.
        dueReach("begins in it", Checks.series(1, 2, 9, 10, 2, 5, 1, 20, 1, 31, 1, 90, 1), 20, 39, 1);
    }

    private static void coarseBucketsBeforeThatTime() {
        Checks.sentence("12, buckets of level 2 wholly before that time (level 0's first)");
        // Level 1 begins at 30, after level 0 does.
        dueReach("ends just before it", Checks.series(3, 1, 9, 10, 2, 5, 1, 20, 1, 25, 1, 39, 1), MIN, MAX, 4);
        dueReach("ends in it", Checks.series(3, 1, 9, 10, 2, 5, 1, 19, 1, 25, 1, 39, 1), MIN, MAX, 3);
        dueReach("goes on past it", Checks.series(3, 1, 9, 10, 2, 5, 1, 18, 1, 25, 1, 39, 1), MIN, MAX, 3);
        // Coarse 0 .. 19 is before both, 20 .. 39 is before level 1's beginning (60) alone.
        RingSeries x = Checks.series(3, 1, 9, 10, 2, 5, 1, 22, 1, 25, 1, 39, 1, 60, 1);
        dueReach("past it, before level 1's beginning", x, MIN, MAX, 4);
        dueReach("past it, before level 1's beginning", x, 20, 39, 2);
        dueReach("past it, before level 1's beginning", x, 20, 24, 0);
    }

    private static void coarseBucketsThatAreGone() {
        Checks.sentence("12, points that no level knows any more");
        RingSeries x = Checks.series(1, 1, 2, 10, 2, 5, 1, 25, 1, 45, 1, 65, 1);
        dueReach("two coarse ones are gone", x, MIN, MAX, 2);
        dueReach("gone", x, 0, 39, 0);
        dueReach("just kept", x, 40, 59, 1);
        RingSeries least = Checks.series(1, 1, 1, 1, 2, 5, 1, 6, 1, 9, 1);
        dueReach("all rooms 1", least, MIN, MAX, 1);
    }

    private static void noPointTwice() {
        Checks.sentence("12, by the finest level for each time: no point counts twice");
        int[] rooms = {1, 2, 3, 60};
        for (int points : rooms) {
            for (int fine : rooms) {
                for (int coarse : rooms) {
                    RingSeries x = new RingSeries(points, fine, coarse, 3, 2);
                    for (int i = 0; i < 60; i++) {
                        x.append(2 * i, 1);
                        long known = x.reach(MIN, MAX);
                        Checks.due("reach after " + i + " is at most what came", known <= i + 1, true);
                        Checks.due("reach after " + i + " is at least many()", known >= x.many(MIN, MAX), true);
                    }
                }
            }
        }
    }

    private static void spansThatEndBeforeTheyBegin() {
        Checks.sentence("12, a span that ends before it begins");
        RingSeries x = Checks.series(1, 2, 9, 10, 2, 5, 1, 11, 1, 22, 1, 45, 1);
        int[][] spans = {{MAX, MIN}, {MAX, 0}, {0, MIN}, {45, 44}, {45, 0}, {20, 19}, {29, 20}, {19, 0}, {0, -1}};
        for (int[] span : spans) {
            dueReach("none", x, span[0], span[1], 0);
        }
    }

    private static void bucketsThatEndAfterTheLastTime() {
        Checks.sentence("12, buckets that lie wholly before that time, at the last times");
        // The last fine bucket, from 2,147,000,000 on, would end after MAX; so would the last coarse one.
        RingSeries fine = Checks.series(1, 9, 9, 1_000_000, 1_000, 2_146_000_000, 1, 2_147_000_000, 1, MAX, 1);
        dueReach("the last fine one", fine, MIN, MAX, 2);
        dueReach("the last fine one", fine, 2_147_000_000, MAX, 1);
        dueReach("the last fine one", fine, 2_147_000_000, MAX - 1, 0);
        dueReach("the last but one", fine, 2_146_000_000, 2_146_999_999, 1);
        RingSeries coarse = Checks.series(1, 1, 9, 1_000_000, 1_000, 1_999_999_999, 1, 2_000_000_000, 1, MAX, 1);
        dueReach("the last coarse one", coarse, MIN, MAX, 2);
        dueReach("the last coarse one", coarse, 2_000_000_000, MAX, 1);
        dueReach("the last coarse one", coarse, 2_000_000_000, MAX - 1, 0);
        dueReach("the last but one", coarse, 1_000_000_000, 1_999_999_999, 1);
        dueReach("a point in the last time", Checks.series(1, 1, 1, 1, 2, MAX, 1), MAX, MAX, 1);
        dueReach("a point in time 0", Checks.series(1, 1, 1, 1, 2, 0, 1), 0, 0, 1);
    }
}
