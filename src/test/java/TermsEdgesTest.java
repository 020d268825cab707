/** The boundary cases that the document names under "Terms" and before it, a method for each sentence. */
public final class TermsEdgesTest {
    private static final int MIN = Checks.MIN;
    private static final int MAX = Checks.MAX;
    private static final int[] ROOMS = {1, 2, 3, 7, 59, 60};

    public static void main(String[] args) {
        timesFrom0To2147483647();
        eachLaterThanTheOneBefore();
        theLastPointsThatThereIsRoomFor();
        theLastBucketsThatThereIsRoomFor();
        bucketsThatHaveAnyPoint();
        bucketsOfSoManyUnitsOfTime();
        bucketsOfKTimesAsMany();
        leastAndGreatest();
        sumOf32Bits();
        numberOfAllPoints();
        timeDividedByTheWidthCutOff();
        alsoOfThoseThatLevel0DoesNotKeep();
        alsoOfThoseThatLevel1DoesNotKeep();
        entriesFromTheOldestOn();
        spanCountsBothEnds();
        spanThatEndsBeforeItBegins();
        spanGoesOverThePointsOfLevel0();
        butReachGoesOverAllLevels();
        questionsChangeNothing();
        upToThe512thCall();
        Checks.finish();
    }

    private static void timesFrom0To2147483647() {
        Checks.sentence("Terms, a point has a time 0 .. 2,147,483,647");
        RingSeries x = new RingSeries(3, 3, 3, 10, 2);
        Checks.due("append(-1, 6)", x.append(-1, 6), RingSeries.STALE);
        Checks.due("append(0, 7)", x.append(0, 7), 0);
        for (int level = 0; level <= 2; level++) {
            Checks.due("start(" + level + ", 0)", x.start(level, 0), 0);
            Checks.due("figure(" + level + ", 0, 2)", x.figure(level, 0, 2), 7);
        }
        Checks.due("append(MAX - 1, 8)", x.append(MAX - 1, 8), 0);
        Checks.due("append(MAX, 9)", x.append(MAX, 9), 0);
        Checks.due("start(0, 1)", x.start(0, 1), MAX - 1);
        Checks.due("start(0, 2)", x.start(0, 2), MAX);
        Checks.due("start(1, 1)", x.start(1, 1), 2_147_483_640);
        Checks.due("start(2, 1)", x.start(2, 1), 2_147_483_640);
        Checks.due("figure(1, 1, 2)", x.figure(1, 1, 2), 17);
        Checks.due("figure(2, 1, 2)", x.figure(2, 1, 2), 17);
        Checks.due("at(0, false)", x.at(0, false), 7);
        Checks.due("at(MAX - 1, true)", x.at(MAX - 1, true), 8);
        Checks.due("at(MAX, true)", x.at(MAX, true), 9);
        Checks.due("many(0, 0)", x.many(0, 0), 1);
        Checks.due("many(MAX, MAX)", x.many(MAX, MAX), 1);
        Checks.due("sound()", x.sound(), true);
    }

    private static void eachLaterThanTheOneBefore() {
        Checks.sentence("Terms, each later than the one before");
        RingSeries x = new RingSeries(9, 9, 9, 10, 2);
        int[][] calls = {{5, 0}, {5, 1}, {4, 1}, {0, 1}, {6, 0}, {5, 1}, {6, 1}, {MAX - 1, 0}, {MAX - 1, 1},
            {MAX, 0}, {MAX, 1}, {MAX - 1, 1}, {0, 1}, {MIN, 1}};
        for (int[] call : calls) {
            Checks.due("append(" + call[0] + ", 1)", x.append(call[0], 1), call[1]);
        }
        Checks.due("count(0)", x.count(0), 4);
    }

    /** An object of these rooms with so many points, two in every coarse bucket, one in every fine one. */
    private static RingSeries filled(int room, int many) {
        RingSeries x = new RingSeries(room, room, room, 10, 2);
        for (int i = 0; i < many; i++) {
            x.append(10 * i + i % 10, 3 * i - 50);
        }
        return x;
    }

    private static void theLastPointsThatThereIsRoomFor() {
        Checks.sentence("Terms, level 0 keeps the last points that there is room for");
        for (int room : ROOMS) {
            for (int many = 0; many <= 2 * room + 2; many++) {
                RingSeries x = filled(room, many);
                int held = Math.min(room, many);
                String what = "room " + room + ", " + many + " points, ";
                Checks.due(what + "count(0)", x.count(0), held);
                for (int i = 0; i < held; i++) {
                    int point = many - held + i;
                    Checks.due(what + "start(0, " + i + ")", x.start(0, i), 10 * point + point % 10);
                    Checks.due(what + "figure(0, " + i + ", 0)", x.figure(0, i, 0), 3 * point - 50);
                }
            }
        }
    }

    private static void theLastBucketsThatThereIsRoomFor() {
        Checks.sentence("Terms, level 1 the last buckets, level 2 those of K times as many");
        for (int room : ROOMS) {
            for (int many = 0; many <= 4 * room + 4; many++) {
                RingSeries x = filled(room, many);
                dueLastBuckets("room " + room + ", " + many + " points, ", x, 1, room, many);
                dueLastBuckets("room " + room + ", " + many + " points, ", x, 2, room, many);
            }
        }
    }

    private static void dueLastBuckets(String what, RingSeries x, int level, int room, int many) {
        int buckets = (many + level - 1) / level;
        int held = Math.min(room, buckets);
        Checks.due(what + "count(" + level + ")", x.count(level), held);
        for (int i = 0; i < held; i++) {
            int bucket = buckets - held + i;
            Checks.due(what + "start(" + level + ", " + i + ")", x.start(level, i), 10 * level * bucket);
            int points = Math.min(level, many - level * bucket);
            Checks.due(what + "figure(" + level + ", " + i + ", 3)", x.figure(level, i, 3), points);
        }
    }

    private static void bucketsThatHaveAnyPoint() {
        Checks.sentence("Terms, buckets that have any point");
        RingSeries x = Checks.series(9, 2, 2, 10, 3, 5, 1, 1_000_005, 2);
        int[][] starts = {{0, 1_000_000}, {0, 999_990}};
        for (int level = 1; level <= 2; level++) {
            Checks.due("count(" + level + "), none between", x.count(level), 2);
            Checks.due("start(" + level + ", 0)", x.start(level, 0), starts[level - 1][0]);
            Checks.due("start(" + level + ", 1)", x.start(level, 1), starts[level - 1][1]);
        }
        RingSeries late = Checks.series(9, 9, 9, 10, 3, 95, 1);
        Checks.due("count(1), none before the first", late.count(1), 1);
        Checks.due("start(1, 0)", late.start(1, 0), 90);
        Checks.due("count(2), none before the first", late.count(2), 1);
        Checks.due("start(2, 0)", late.start(2, 0), 90);
    }

    private static void bucketsOfSoManyUnitsOfTime() {
        Checks.sentence("Terms, buckets of so many units of time (its width)");
        RingSeries x = Checks.series(9, 9, 9, 7, 3, 0, 1, 6, 1, 7, 1, 13, 1, 14, 1);
        int[][] buckets = {{0, 2}, {7, 2}, {14, 1}};
        Checks.due("count(1)", x.count(1), 3);
        for (int i = 0; i < 3; i++) {
            Checks.due("start(1, " + i + ")", x.start(1, i), buckets[i][0]);
            Checks.due("figure(1, " + i + ", 3)", x.figure(1, i, 3), buckets[i][1]);
        }
        RingSeries ones = Checks.series(9, 9, 9, 1, 2, 0, 1, 1, 1, 2, 1);
        Checks.due("width 1, count(1)", ones.count(1), 3);
        RingSeries wide = Checks.series(9, 9, 9, 1_000_000, 2, 999_999, 1, 1_000_000, 1, 2_146_999_999, 1, MAX, 1);
        Checks.due("the widest, count(1)", wide.count(1), 4);
        Checks.due("the widest, start(1, 1)", wide.start(1, 1), 1_000_000);
        Checks.due("the widest, start(1, 2)", wide.start(1, 2), 2_146_000_000);
        Checks.due("the widest, start(1, 3)", wide.start(1, 3), 2_147_000_000);
    }

    private static void bucketsOfKTimesAsMany() {
        Checks.sentence("Terms, level 2 those of K times as many");
        RingSeries x = Checks.series(9, 9, 9, 7, 3, 0, 1, 20, 1, 21, 1, 41, 1, 42, 1);
        int[][] buckets = {{0, 2}, {21, 2}, {42, 1}};
        Checks.due("count(2)", x.count(2), 3);
        for (int i = 0; i < 3; i++) {
            Checks.due("start(2, " + i + ")", x.start(2, i), buckets[i][0]);
            Checks.due("figure(2, " + i + ", 3)", x.figure(2, i, 3), buckets[i][1]);
        }
        RingSeries wide = Checks.series(9, 9, 9, 1_000_000, 1_000, 0, 1, 999_999_999, 1, 1_000_000_000, 1,
            1_999_999_999, 1, 2_000_000_000, 1, MAX, 1);
        Checks.due("the widest, count(2)", wide.count(2), 3);
        for (int i = 0; i < 3; i++) {
            Checks.due("the widest, start(2, " + i + ")", wide.start(2, i), 1_000_000_000 * i);
            Checks.due("the widest, figure(2, " + i + ", 3)", wide.figure(2, i, 3), 2);
        }
    }

    private static void dueBuckets(String what, RingSeries x, int i, int figure, int want) {
        for (int level = 1; level <= 2; level++) {
            Checks.due(what + ", figure(" + level + ", " + i + ", " + figure + ")", x.figure(level, i, figure), want);
        }
    }

    private static void dueLeastAndGreatest(String what, int least, int greatest, int... values) {
        RingSeries x = new RingSeries(1, 1, 1, 10, 2);
        for (int i = 0; i < values.length; i++) {
            x.append(i, values[i]);
        }
        dueBuckets(what, x, 0, 0, least);
        dueBuckets(what, x, 0, 1, greatest);
    }

    private static void leastAndGreatest() {
        Checks.sentence("Terms, each bucket the least and greatest value");
        dueLeastAndGreatest("one", 5, 5, 5);
        dueLeastAndGreatest("all below 0", -9, -2, -5, -9, -2, -4);
        dueLeastAndGreatest("all above 0", 2, 9, 5, 9, 2, 4);
        dueLeastAndGreatest("like ones", 3, 3, 3, 3, 3);
        dueLeastAndGreatest("rising", 1, 4, 1, 2, 3, 4);
        dueLeastAndGreatest("falling", 1, 4, 4, 3, 2, 1);
        dueLeastAndGreatest("furthest apart", MIN, MAX, 0, MAX, MIN, 1);
        dueLeastAndGreatest("MIN first", MIN, MIN + 1, MIN, MIN + 1);
        dueLeastAndGreatest("MAX first", MAX - 1, MAX, MAX, MAX - 1);
        RingSeries again = Checks.series(1, 1, 1, 1, 2, 0, MIN, 1, MAX, 2, 5);
        dueBuckets("in the place of one that is gone", again, 0, 0, 5);
        dueBuckets("in the place of one that is gone", again, 0, 1, 5);
    }

    private static void dueSum(String what, int want, int... values) {
        RingSeries x = new RingSeries(1, 9, 1, 10, 2);
        for (int i = 0; i < values.length; i++) {
            x.append(i, values[i]);
        }
        dueBuckets(what, x, 0, 2, want);
    }

    private static void sumOf32Bits() {
        Checks.sentence("Terms, the sum (32 bits)");
        dueSum("MAX", MAX, MAX - 1, 1);
        dueSum("just above MAX", MIN, MAX, 1);
        dueSum("MIN", MIN, MIN + 1, -1);
        dueSum("just below MIN", MAX, MIN, -1);
        dueSum("twice MIN", 0, MIN, MIN);
        dueSum("twice MAX", -2, MAX, MAX);
        dueSum("there and back", MAX, MAX, MAX, -MAX);
        RingSeries apart = Checks.series(1, 9, 9, 10, 2, 0, MAX, 10, 3);
        Checks.due("over two fine ones, figure(2, 0, 2)", apart.figure(2, 0, 2), MIN + 2);
        Checks.due("figure(1, 1, 2)", apart.figure(1, 1, 2), 3);
        RingSeries again = Checks.series(1, 1, 1, 1, 2, 0, 90, 1, 80, 2, 5);
        dueBuckets("in the place of one that is gone", again, 0, 2, 5);
    }

    private static void numberOfAllPoints() {
        Checks.sentence("Terms, the number of all points that came with a time in it");
        RingSeries x = new RingSeries(1, 1, 1, 1_000, 2);
        for (int i = 0; i < 500; i++) {
            x.append(i, 0);
        }
        dueBuckets("five hundred", x, 0, 3, 500);
        RingSeries refused = new RingSeries(3, 3, 3, 10, 2);
        refused.append(3, 1);
        refused.append(3, 1);
        refused.append(2, 1);
        refused.append(-1, 1);
        dueBuckets("none that was refused", refused, 0, 3, 1);
        RingSeries again = Checks.series(1, 1, 1, 1, 2, 0, 9, 1, 8, 2, 5);
        dueBuckets("in the place of one that is gone", again, 0, 3, 1);
    }

    private static void timeDividedByTheWidthCutOff() {
        Checks.sentence("Terms, time divided by the width, cut off");
        int[][] starts = {{0, 0, 0}, {1, 0, 0}, {5, 0, 0}, {9, 0, 0}, {10, 10, 0}, {15, 10, 0}, {19, 10, 0},
            {29, 20, 0}, {30, 30, 30}, {59, 50, 30}, {60, 60, 60}, {MAX - 8, 2_147_483_630, 2_147_483_610},
            {MAX - 7, 2_147_483_640, 2_147_483_640}, {MAX, 2_147_483_640, 2_147_483_640}};
        for (int[] s : starts) {
            RingSeries x = Checks.series(1, 1, 1, 10, 3, s[0], 1);
            Checks.due("time " + s[0] + ", start(0, 0)", x.start(0, 0), s[0]);
            Checks.due("time " + s[0] + ", start(1, 0)", x.start(1, 0), s[1]);
            Checks.due("time " + s[0] + ", start(2, 0)", x.start(2, 0), s[2]);
        }
    }

    private static void alsoOfThoseThatLevel0DoesNotKeep() {
        Checks.sentence("Terms, also of those that level 0 does not keep any more");
        RingSeries x = Checks.series(1, 9, 9, 10, 2, 0, 40, 1, -30, 2, 7, 9, 2, 19, 1);
        Checks.due("count(0)", x.count(0), 1);
        int[][] figures = {{-30, 40, 19, 4}, {-30, 40, 20, 5}};
        for (int level = 1; level <= 2; level++) {
            for (int what = 0; what <= 3; what++) {
                Checks.due("figure(" + level + ", 0, " + what + ")", x.figure(level, 0, what), figures[level - 1][what]);
            }
        }
    }

    private static void alsoOfThoseThatLevel1DoesNotKeep() {
        Checks.sentence("Terms, of all points that came with a time in it, level 2");
        RingSeries x = Checks.series(1, 1, 9, 10, 3, 0, 40, 11, -30, 12, 7, 29, 2);
        Checks.due("count(1)", x.count(1), 1);
        int[] figures = {-30, 40, 19, 4};
        for (int what = 0; what <= 3; what++) {
            Checks.due("figure(2, 0, " + what + ")", x.figure(2, 0, what), figures[what]);
        }
    }

    private static void entriesFromTheOldestOn() {
        Checks.sentence("Terms, entries of a level are told from the oldest on");
        for (int room : ROOMS) {
            for (int many = 2; many <= 4 * room + 4; many += room) {
                for (int level = 0; level <= 2; level++) {
                    dueOldestFirst("room " + room + ", " + many + " points, ", filled(room, many), level);
                }
            }
        }
    }

    private static void dueOldestFirst(String what, RingSeries x, int level) {
        int held = x.count(level);
        for (int i = 1; i < held; i++) {
            String two = what + "level " + level + ", " + (i - 1) + " and " + i;
            Checks.due(two + ", earlier starts", x.start(level, i - 1) < x.start(level, i), true);
            // The values of filled rise with the times.
            Checks.due(two + ", earlier values", x.figure(level, i - 1, 1) < x.figure(level, i, 0), true);
        }
        int newest = x.start(0, x.count(0) - 1);
        int last = x.start(level, held - 1);
        Checks.due(what + "level " + level + ", the newest is last", newest - last <= 10 * level, true);
    }

    private static void dueSpan(RingSeries x, int from, int to, int... want) {
        String span = "(" + from + ", " + to + ")";
        Checks.due("many" + span, x.many(from, to), want[0]);
        Checks.due("extreme" + span + ", -1", x.extreme(from, to, -1), want[1]);
        Checks.due("extreme" + span + ", 1", x.extreme(from, to, 1), want[2]);
        Checks.due("sum" + span, x.sum(from, to), want[3]);
        Checks.due("steepest" + span, x.steepest(from, to), want[4]);
        Checks.due("median" + span, x.median(from, to), want[5]);
        Checks.due("reach" + span, x.reach(from, to), want[6]);
    }

    private static void spanCountsBothEnds() {
        Checks.sentence("Terms, a span is from .. to, both counted");
        RingSeries x = Checks.series(9, 9, 9, 10, 2, 10, -4, 20, 1, 30, 8);
        dueSpan(x, 10, 30, 3, -4, 8, 5, 2, 1, 3);
        dueSpan(x, 9, 31, 3, -4, 8, 5, 2, 1, 3);
        dueSpan(x, 11, 30, 2, 1, 8, 9, 2, 1, 2);
        dueSpan(x, 10, 29, 2, -4, 1, -3, 1, -4, 2);
        dueSpan(x, 10, 20, 2, -4, 1, -3, 1, -4, 2);
        dueSpan(x, 11, 20, 1, 1, 1, 1, RingSeries.BAD, 1, 1);
        dueSpan(x, 20, 29, 1, 1, 1, 1, RingSeries.BAD, 1, 1);
        dueSpan(x, 10, 10, 1, -4, -4, -4, RingSeries.BAD, -4, 1);
        dueSpan(x, 30, 30, 1, 8, 8, 8, RingSeries.BAD, 8, 1);
        dueSpan(x, 11, 19, 0, 0, 0, 0, RingSeries.BAD, 0, 0);
        dueSpan(x, MIN, 9, 0, 0, 0, 0, RingSeries.BAD, 0, 0);
        dueSpan(x, 31, MAX, 0, 0, 0, 0, RingSeries.BAD, 0, 0);
        dueSpan(x, MIN, MAX, 3, -4, 8, 5, 2, 1, 3);
        RingSeries ends = Checks.series(9, 9, 9, 10, 2, 0, -4, MAX, 8);
        dueSpan(ends, 0, MAX, 2, -4, 8, 4, 1, -4, 2);
        dueSpan(ends, 1, MAX, 1, 8, 8, 8, RingSeries.BAD, 8, 1);
        dueSpan(ends, 0, MAX - 1, 1, -4, -4, -4, RingSeries.BAD, -4, 1);
        dueSpan(ends, 0, 0, 1, -4, -4, -4, RingSeries.BAD, -4, 1);
        dueSpan(ends, MAX, MAX, 1, 8, 8, 8, RingSeries.BAD, 8, 1);
    }

    private static void spanThatEndsBeforeItBegins() {
        Checks.sentence("Terms, a span that ends before it begins has nothing in it");
        RingSeries x = Checks.series(2, 9, 9, 10, 2, 10, -4, 20, 1, 30, 8);
        int[][] spans = {{30, 10}, {30, 20}, {21, 20}, {20, 19}, {MAX, MIN}, {MAX, 0}, {0, MIN}, {0, -1}, {10, 9}};
        for (int[] span : spans) {
            dueSpan(x, span[0], span[1], 0, 0, 0, 0, RingSeries.BAD, 0, 0);
        }
    }

    private static void spanGoesOverThePointsOfLevel0() {
        Checks.sentence("Terms, what is asked of a span goes over the points of level 0");
        RingSeries x = Checks.series(2, 9, 9, 10, 2, 1, 100, 12, -100, 23, 7, 34, 9);
        dueSpan(x, 0, 99, 2, 7, 9, 16, 1, 7, 4);
        dueSpan(x, 0, 23, 1, 7, 7, 7, RingSeries.BAD, 7, 3);
        dueSpan(x, 0, 22, 0, 0, 0, 0, RingSeries.BAD, 0, 2);
        Checks.due("at(22, false)", x.at(22, false), 0);
        Checks.due("at(22, true)", x.at(22, true), 0);
    }

    private static void butReachGoesOverAllLevels() {
        Checks.sentence("Terms, but reach() goes over all levels");
        // Kept: the point 65; the fine buckets from 40 and 60 on; the coarse ones from 0, 20, 40 and 60 on.
        RingSeries x = Checks.series(1, 2, 9, 10, 2, 1, 1, 2, 1, 21, 1, 42, 1, 43, 1, 44, 1, 65, 1);
        Checks.due("many(0, 99)", x.many(0, 99), 1);
        Checks.due("reach(0, 99)", x.reach(0, 99), 1 + 3 + 3);
        Checks.due("reach(65, 65), level 0", x.reach(65, 65), 1);
        Checks.due("reach(40, 59), level 1", x.reach(40, 59), 3);
        Checks.due("reach(0, 39), level 2", x.reach(0, 39), 3);
    }

    private static void questionsChangeNothing() {
        Checks.sentence("Terms, a question changes nothing");
        RingSeries x = Checks.series(3, 3, 3, 10, 2, 1, 100, 12, -100, 23, 7, 34, 9, 35, -2);
        String before = Checks.state(x);
        Checks.due("the same questions again", Checks.state(x), before);
        x.median(23, 35);
        x.at(30, true);
        x.start(2, 9);
        x.figure(-1, 9, 9);
        Checks.due("the same questions after others", Checks.state(x), before);
    }

    private static void upToThe512thCall() {
        Checks.sentence("What it is, an object is used for at most 512 calls");
        // Times 0 .. 510, values -255 .. 255: of level 0 451 .. 510 with 196 .. 255.
        Checks.due("count(0)", grown().count(0), 60);
        Checks.due("count(1)", grown().count(1), 60);
        Checks.due("count(2)", grown().count(2), 60);
        Checks.due("start(2, 0)", grown().start(2, 0), 392);
        Checks.due("figure(2, 59, 3)", grown().figure(2, 59, 3), 1);
        Checks.due("many(MIN, MAX)", grown().many(MIN, MAX), 60);
        Checks.due("extreme(MIN, MAX, -1)", grown().extreme(MIN, MAX, -1), 196);
        Checks.due("sum(MIN, MAX)", grown().sum(MIN, MAX), 60 * 451 / 2);
        Checks.due("at(480, true)", grown().at(480, true), 225);
        Checks.due("steepest(MIN, MAX)", grown().steepest(MIN, MAX), 1);
        Checks.due("median(MIN, MAX)", grown().median(MIN, MAX), 225);
        Checks.due("reach(MIN, MAX)", grown().reach(MIN, MAX), 60 + 58);
        Checks.due("sound()", grown().sound(), true);
        Checks.due("append(511, 0)", grown().append(511, 0), 0);
        Checks.due("append(510, 0)", grown().append(510, 0), RingSeries.STALE);
    }

    private static RingSeries grown() {
        RingSeries x = new RingSeries(60, 60, 60, 1, 2);
        for (int i = 0; i < 511; i++) {
            x.append(i, i - 255);
        }
        return x;
    }
}
