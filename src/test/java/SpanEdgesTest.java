import java.util.Arrays;

/** The boundary cases of promises 6 to 11: many, extreme, sum, at, steepest, median. */
public final class SpanEdgesTest {
    private static final int MIN = Checks.MIN;
    private static final int MAX = Checks.MAX;

    public static void main(String[] args) {
        manyOfNone();
        manyOfOne();
        manyOfAll();
        leastOrGreatest();
        extremeThatIs0();
        extremeOfNone();
        extremeOfAnotherSign();
        sumExactly();
        sumOfNone();
        atTheLastPointNotLater();
        atOnTheStraightLine();
        atCutOffTowards0();
        atWithoutANextOne();
        atFurthestApart();
        atWithoutAPoint();
        atThatIs0();
        steepestMostAbove();
        steepestOfLikeOnes();
        steepestOfFewerThanTwo();
        steepestNeighboursInTheSpan();
        steepestCountsFromTheOldest();
        steepestFurthestApart();
        medianInTheMiddle();
        medianOfTwoTheLesser();
        medianOfNone();
        medianThatIs0();
        medianOfAsManyAsThereIsRoomFor();
        Checks.finish();
    }

    /** Values at times 10, 20, 30 and so on, in rings that have room for all of them. */
    private static RingSeries every10(int... values) {
        return every10In(60, values);
    }

    private static RingSeries every10In(int room, int... values) {
        RingSeries x = new RingSeries(room, 60, 60, 10, 2);
        for (int i = 0; i < values.length; i++) {
            Checks.due("append(" + 10 * (i + 1) + ", " + values[i] + ")", x.append(10 * (i + 1), values[i]), 0);
        }
        return x;
    }

    private static void manyOfNone() {
        Checks.sentence("6, how many: none");
        Checks.due("new", new RingSeries(3, 3, 3, 1, 2).many(MIN, MAX), 0);
        RingSeries x = every10In(3, 1, 2, 3, 4);
        int[][] spans = {{MIN, MIN}, {MIN, -1}, {-5, 0}, {0, 0}, {0, 19}, {10, 10}, {21, 29}, {41, 41}, {41, MAX},
            {MAX, MAX}, {40, 20}, {MAX, MIN}};
        for (int[] span : spans) {
            Checks.due("many(" + span[0] + ", " + span[1] + ")", x.many(span[0], span[1]), 0);
        }
    }

    private static void manyOfOne() {
        Checks.sentence("6, how many: one");
        RingSeries x = every10In(3, 1, 2, 3, 4);
        int[][] spans = {{MIN, 20}, {20, 20}, {20, 29}, {11, 20}, {21, 39}, {30, 30}, {30, 39}, {21, 30}, {31, 40},
            {40, 40}, {31, MAX}, {40, MAX}, {0, 20}};
        for (int[] span : spans) {
            Checks.due("many(" + span[0] + ", " + span[1] + ")", x.many(span[0], span[1]), 1);
        }
        Checks.due("room 1", every10In(1, 1, 2, 3).many(MIN, MAX), 1);
    }

    private static void manyOfAll() {
        Checks.sentence("6, how many: all");
        RingSeries x = every10In(3, 1, 2, 3, 4);
        int[][] spans = {{20, 40}, {19, 41}, {MIN, MAX}, {0, MAX}, {20, MAX}, {MIN, 40}, {-1, 40}};
        for (int[] span : spans) {
            Checks.due("many(" + span[0] + ", " + span[1] + ")", x.many(span[0], span[1]), 3);
        }
        RingSeries full = new RingSeries(60, 1, 1, 1, 2);
        for (int i = 0; i < 60; i++) {
            Checks.due("after " + i, full.many(0, MAX), i);
            full.append(i, 1);
        }
        Checks.due("sixty", full.many(0, 59), 60);
        full.append(60, 1);
        Checks.due("sixty-one", full.many(0, 60), 60);
    }

    private static void dueExtremes(String what, RingSeries x, int from, int to, int least, int greatest) {
        Checks.due(what + ", extreme(" + from + ", " + to + ", -1)", x.extreme(from, to, -1), least);
        Checks.due(what + ", extreme(" + from + ", " + to + ", 1)", x.extreme(from, to, 1), greatest);
    }

    private static void leastOrGreatest() {
        Checks.sentence("7, the least of them (sign - 1) or the greatest (1)");
        dueExtremes("one", every10(7), 10, 10, 7, 7);
        dueExtremes("all below 0", every10(-4, -9, -2, -7), 0, 99, -9, -2);
        dueExtremes("all above 0", every10(4, 9, 2, 7), 0, 99, 2, 9);
        dueExtremes("like ones", every10(5, 5, 5), 0, 99, 5, 5);
        dueExtremes("rising", every10(1, 2, 3), 0, 99, 1, 3);
        dueExtremes("falling", every10(3, 2, 1), 0, 99, 1, 3);
        dueExtremes("furthest apart", every10(0, MAX, MIN, 1), 0, 99, MIN, MAX);
        dueExtremes("at the ends of the span", every10(99, 1, 5, 9, -99), 20, 40, 1, 9);
        dueExtremes("without those that are gone", every10In(2, -99, 99, 4, 6), MIN, MAX, 4, 6);
    }

    private static void extremeThatIs0() {
        Checks.sentence("7, 0 (which may be one, too)");
        dueExtremes("the greatest is 0", every10(-5, 0, -3), 0, 99, -5, 0);
        dueExtremes("the least is 0", every10(5, 0, 3), 0, 99, 0, 5);
        dueExtremes("0 alone", every10(5, 0, 3), 20, 20, 0, 0);
    }

    private static void extremeOfNone() {
        Checks.sentence("7, there is none");
        dueExtremes("new", new RingSeries(3, 3, 3, 1, 2), MIN, MAX, 0, 0);
        RingSeries x = every10In(3, 9, 8, 7, 6);
        int[][] spans = {{MIN, 19}, {21, 29}, {41, MAX}, {40, 20}, {10, 10}};
        for (int[] span : spans) {
            dueExtremes("none", x, span[0], span[1], 0, 0);
        }
    }

    private static void extremeOfAnotherSign() {
        Checks.sentence("7, another sign");
        int[] signs = {0, 2, -2, 3, -3, MIN, MIN + 1, MAX, MAX - 1};
        for (int sign : signs) {
            Checks.due("extreme(0, 99, " + sign + ")", every10(5, 6).extreme(0, 99, sign), 0);
            Checks.due("below 0, extreme(0, 99, " + sign + ")", every10(-5, -6).extreme(0, 99, sign), 0);
            Checks.due("none, extreme(50, 99, " + sign + ")", every10(5, 6).extreme(50, 99, sign), 0);
            Checks.due("new, extreme(0, 99, " + sign + ")", new RingSeries(3, 3, 3, 1, 2).extreme(0, 99, sign), 0);
        }
    }

    private static void sumExactly() {
        Checks.sentence("8, their sum, exactly");
        Checks.due("one", every10(MIN).sum(10, 10), MIN);
        Checks.due("just above MAX", every10(MAX, 1).sum(0, 99), MAX + 1L);
        Checks.due("just below MIN", every10(MIN, -1).sum(0, 99), MIN - 1L);
        Checks.due("twice MAX", every10(MAX, MAX).sum(0, 99), 2L * MAX);
        Checks.due("twice MIN", every10(MIN, MIN).sum(0, 99), 2L * MIN);
        Checks.due("there and back", every10(MAX, MAX, -MAX, -MAX).sum(0, 99), 0);
        Checks.due("MIN and MAX", every10(MIN, MAX).sum(0, 99), -1);
        Checks.due("part of a span", every10(MAX, MAX, MAX, 5).sum(20, 40), 2L * MAX + 5);
        int[] ends = {MIN, MAX};
        for (int value : ends) {
            int[] sixty = new int[60];
            Arrays.fill(sixty, value);
            Checks.due("sixty times " + value, every10(sixty).sum(MIN, MAX), 60L * value);
        }
        Checks.due("without those that are gone", every10In(2, MAX, MAX, 4, 6).sum(MIN, MAX), 10);
    }

    private static void sumOfNone() {
        Checks.sentence("8, the sum of none");
        Checks.due("new", new RingSeries(3, 3, 3, 1, 2).sum(MIN, MAX), 0);
        RingSeries x = every10In(3, 9, 8, 7, 6);
        int[][] spans = {{MIN, 19}, {21, 29}, {41, MAX}, {40, 20}, {10, 10}};
        for (int[] span : spans) {
            Checks.due("sum(" + span[0] + ", " + span[1] + ")", x.sum(span[0], span[1]), 0);
        }
    }

    private static void dueAt(String what, RingSeries x, boolean smooth, int... pairs) {
        for (int i = 0; i < pairs.length; i += 2) {
            Checks.due(what + ", at(" + pairs[i] + ", " + smooth + ")", x.at(pairs[i], smooth), pairs[i + 1]);
        }
    }

    private static void atTheLastPointNotLater() {
        Checks.sentence("9, that of the last point of level 0 not later");
        RingSeries x = every10(4, -9, 7);
        dueAt("three", x, false, 10, 4, 11, 4, 19, 4, 20, -9, 21, -9, 29, -9, 30, 7, 31, 7, 1_000, 7, MAX, 7);
        dueAt("three, in the points themselves", x, true, 10, 4, 20, -9, 30, 7);
        RingSeries ends = Checks.series(3, 3, 3, 10, 2, 0, 4, MAX - 1, 5, MAX, 6);
        dueAt("the first and last times", ends, false, 0, 4, 1, 4, MAX - 2, 4, MAX - 1, 5, MAX, 6);
        dueAt("wrapped round", every10In(2, 4, -9, 7, 8), false, 30, 7, 39, 7, 40, 8, 41, 8);
        dueAt("room 1", every10In(1, 4, -9), false, 20, -9, 21, -9, 19, 0);
    }

    private static void atOnTheStraightLine() {
        Checks.sentence("9, between it and the next one on the straight line, if smooth is told");
        RingSeries x = every10(0, 100, 50, 50, -50);
        dueAt("up", x, true, 10, 0, 11, 10, 15, 50, 19, 90, 20, 100);
        dueAt("down", x, true, 21, 95, 25, 75, 29, 55, 30, 50);
        dueAt("level", x, true, 31, 50, 39, 50);
        dueAt("through 0", x, true, 41, 40, 45, 0, 49, -40, 50, -50);
        dueAt("not told", x, false, 15, 0, 25, 100, 45, 50);
        dueAt("neighbours in time", Checks.series(3, 3, 3, 10, 2, 5, 1, 6, 9), true, 5, 1, 6, 9);
        dueAt("wrapped round", every10In(2, 900, 0, 0, 100), true, 30, 0, 35, 50, 40, 100);
    }

    private static void atCutOffTowards0() {
        Checks.sentence("9, cut off towards 0 from the earlier one's value on");
        dueAt("up above 0", Checks.series(3, 3, 3, 10, 2, 0, 3, 4, 5), true, 1, 3, 2, 4, 3, 4, 4, 5);
        dueAt("down above 0", Checks.series(3, 3, 3, 10, 2, 0, 5, 4, 3), true, 1, 5, 2, 4, 3, 4, 4, 3);
        dueAt("up below 0", Checks.series(3, 3, 3, 10, 2, 0, -5, 4, -3), true, 1, -5, 2, -4, 3, -4, 4, -3);
        dueAt("down below 0", Checks.series(3, 3, 3, 10, 2, 0, -3, 4, -5), true, 1, -3, 2, -4, 3, -4, 4, -5);
        dueAt("up through 0", Checks.series(3, 3, 3, 10, 2, 0, -1, 4, 1), true, 1, -1, 2, 0, 3, 0, 4, 1);
        dueAt("down through 0", Checks.series(3, 3, 3, 10, 2, 0, 1, 4, -1), true, 1, 1, 2, 0, 3, 0, 4, -1);
        dueAt("steep up", Checks.series(3, 3, 3, 10, 2, 0, -3, 3, 10), true, 1, 1, 2, 5);
        dueAt("steep down", Checks.series(3, 3, 3, 10, 2, 0, 3, 3, -10), true, 1, -1, 2, -5);
        dueAt("flat up", Checks.series(3, 3, 3, 10, 2, 0, 7, 1_000, 8), true, 1, 7, 999, 7, 1_000, 8);
        dueAt("flat down", Checks.series(3, 3, 3, 10, 2, 0, 7, 1_000, 6), true, 1, 7, 999, 7, 1_000, 6);
    }

    private static void atWithoutANextOne() {
        Checks.sentence("9, between it and the next one: there is no next one");
        dueAt("after the last", every10(4, -9, 7), true, 30, 7, 31, 7, 39, 7, MAX, 7);
        dueAt("one alone", every10(4), true, 10, 4, 11, 4, MAX, 4);
        dueAt("room 1", every10In(1, 4, -9), true, 20, -9, 21, -9);
        dueAt("room that is not yet used", every10In(3, 4, -9), true, 20, -9, 25, -9);
        dueAt("the last time", Checks.series(3, 3, 3, 10, 2, MAX, 6), true, MAX, 6, MAX - 1, 0);
    }

    private static void atFurthestApart() {
        Checks.sentence("9, on the straight line, however far apart");
        RingSeries up = Checks.series(3, 3, 3, 10, 2, 0, MIN, MAX, MAX);
        // A rise of 2^32 - 1 in 2^31 - 1 units: two for each, and one more at the very end.
        dueAt("up", up, true, 0, MIN, 1, MIN + 2, 2, MIN + 4, 1_073_741_823, -2, 1_073_741_824, 0, MAX - 1, MAX - 3,
            MAX, MAX);
        RingSeries down = Checks.series(3, 3, 3, 10, 2, 0, MAX, MAX, MIN);
        dueAt("down", down, true, 0, MAX, 1, MAX - 2, 1_073_741_823, 1, 1_073_741_824, -1, MAX - 1, MIN + 3, MAX, MIN);
        dueAt("up in two", Checks.series(3, 3, 3, 10, 2, 0, MIN, 2, MAX), true, 1, -1);
        dueAt("down in two", Checks.series(3, 3, 3, 10, 2, 0, MAX, 2, MIN), true, 1, 0);
    }

    private static void atWithoutAPoint() {
        Checks.sentence("9, 0: there is no such point");
        RingSeries[] all = {new RingSeries(3, 3, 3, 1, 2), every10(4, 5), every10In(1, 3, 4)};
        for (RingSeries x : all) {
            for (int smooth = 0; smooth <= 1; smooth++) {
                dueAt("before the first", x, smooth == 1, 9, 0, 1, 0, 0, 0, -1, 0, MIN, 0);
            }
        }
        dueAt("new", all[0], true, MAX, 0);
        dueAt("new", all[0], false, MAX, 0);
        dueAt("gone", every10In(2, 4, 5, 6), true, 10, 0, 19, 0);
        dueAt("gone", every10In(2, 4, 5, 6), false, 10, 0, 19, 0);
    }

    private static void atThatIs0() {
        Checks.sentence("9, 0 (which may be one, too)");
        dueAt("a value of 0", every10(5, 0, 7), false, 20, 0, 29, 0, 30, 7);
        dueAt("a value of 0", every10(5, 0, 7), true, 20, 0, 21, 0, 22, 1);
    }

    private static void dueSteepest(String what, RingSeries x, int from, int to, int want) {
        Checks.due(what + ", steepest(" + from + ", " + to + ")", x.steepest(from, to), want);
    }

    private static void steepestMostAbove() {
        Checks.sentence("10, the i of the later entry, whose value is the most above the earlier one's");
        dueSteepest("two that rise", every10(1, 2), 0, 99, 1);
        dueSteepest("two alike", every10(2, 2), 0, 99, 1);
        dueSteepest("two that fall", every10(2, 1), 0, 99, 1);
        dueSteepest("the first", every10(0, 9, 10, 12), 0, 99, 1);
        dueSteepest("the last", every10(0, 1, 2, 9), 0, 99, 3);
        dueSteepest("after a great fall", every10(0, 1, -50, -48), 0, 99, 3);
        dueSteepest("all fall, the least", every10(0, -5, -7, -11), 0, 99, 2);
        dueSteepest("none of them rises", every10(9, 4, 4, 1), 0, 99, 2);
        dueSteepest("by value, not by time", Checks.series(9, 9, 9, 10, 2, 0, 0, 1, 5, 100, 11), 0, 100, 2);
    }

    private static void steepestOfLikeOnes() {
        Checks.sentence("10, of like ones the first");
        dueSteepest("all rise alike", every10(1, 3, 5, 7), 0, 99, 1);
        dueSteepest("all level", every10(4, 4, 4, 4), 0, 99, 1);
        dueSteepest("all fall alike", every10(7, 5, 3, 1), 0, 99, 1);
        dueSteepest("two of them", every10(0, 1, 4, 4, 7), 0, 99, 2);
        dueSteepest("from the second on", every10(1, 3, 5, 7), 20, 99, 2);
    }

    private static void steepestOfFewerThanTwo() {
        Checks.sentence("10, BAD: fewer than two");
        dueSteepest("new", new RingSeries(3, 3, 3, 1, 2), MIN, MAX, RingSeries.BAD);
        dueSteepest("one", every10(5), MIN, MAX, RingSeries.BAD);
        dueSteepest("room 1", every10In(1, 5, 6, 7), MIN, MAX, RingSeries.BAD);
        RingSeries x = every10In(3, 1, 5, 7, 8);
        int[][] spans = {{MIN, 19}, {10, 20}, {11, 29}, {20, 20}, {20, 29}, {21, 30}, {21, 29}, {31, 40}, {40, 40},
            {40, MAX}, {41, MAX}, {40, 20}, {30, 20}, {MAX, MIN}};
        for (int[] span : spans) {
            dueSteepest("four", x, span[0], span[1], RingSeries.BAD);
        }
        dueSteepest("just two", x, 20, 30, 1);
        dueSteepest("just two", x, 30, 40, 2);
    }

    private static void steepestNeighboursInTheSpan() {
        Checks.sentence("10, of two neighbours of level 0 in a span");
        RingSeries x = every10(0, 50, 51, 53, 90);
        dueSteepest("the earlier one outside", x, 11, 49, 3);
        dueSteepest("the later one outside", x, 10, 49, 1);
        dueSteepest("both just inside", x, 20, 50, 4);
        dueSteepest("the earlier one is gone", every10In(3, -99, 5, 6, 9), MIN, MAX, 2);
    }

    private static void steepestCountsFromTheOldest() {
        Checks.sentence("10, the i of the later entry");
        RingSeries x = every10In(3, 0, 1, 2, 4, 9);
        dueSteepest("wrapped round", x, MIN, MAX, 2);
        dueSteepest("from the second of level 0 on", x, 40, 50, 2);
        dueSteepest("up to the second of level 0", x, 0, 40, 1);
        Checks.due("figure(0, i, 0)", x.figure(0, x.steepest(MIN, MAX), 0), 9);
    }

    private static void steepestFurthestApart() {
        Checks.sentence("10, the most above, however far apart");
        dueSteepest("up", every10(0, 5, MIN, MAX), 0, 99, 3);
        dueSteepest("down", every10(MAX, MIN, MIN), 0, 99, 2);
        dueSteepest("only down", every10(MAX, MIN), 0, 99, 1);
        dueSteepest("up more than MAX", every10(-2, MAX, -1, MAX), 0, 99, 1);
        dueSteepest("up, first MAX and then one more", every10(0, MAX, -1, MAX), 0, 99, 3);
    }

    private static void dueMedian(String what, RingSeries x, int from, int to, int want) {
        Checks.due(what + ", median(" + from + ", " + to + ")", x.median(from, to), want);
    }

    private static void medianInTheMiddle() {
        Checks.sentence("11, the value in the middle when they are sorted");
        dueMedian("one", every10(7), 0, 99, 7);
        dueMedian("one of three", every10(7, 8, 9), 20, 20, 8);
        int[][] threes = {{1, 2, 3}, {1, 3, 2}, {2, 1, 3}, {2, 3, 1}, {3, 1, 2}, {3, 2, 1}};
        for (int[] three : threes) {
            dueMedian("three", every10(three), 0, 99, 2);
        }
        dueMedian("five", every10(9, -3, 4, 0, 4), 0, 99, 4);
        dueMedian("below 0", every10(-9, -1, -4), 0, 99, -4);
        dueMedian("like ones", every10(5, 5, 5), 0, 99, 5);
        dueMedian("furthest apart", every10(MAX, MIN, 3), 0, 99, 3);
        dueMedian("MIN twice", every10(MIN, MAX, MIN), 0, 99, MIN);
        dueMedian("MAX twice", every10(MAX, MIN, MAX), 0, 99, MAX);
        dueMedian("without those that are gone", every10In(3, 99, 98, 1, 3, 2), MIN, MAX, 2);
        dueMedian("part of a span", every10(9, 1, 2, 3, 9), 20, 40, 2);
    }

    private static void medianOfTwoTheLesser() {
        Checks.sentence("11, of two the lesser");
        dueMedian("rising", every10(3, 8), 0, 99, 3);
        dueMedian("falling", every10(8, 3), 0, 99, 3);
        dueMedian("below 0", every10(-3, -8), 0, 99, -8);
        dueMedian("through 0", every10(3, -8), 0, 99, -8);
        dueMedian("furthest apart", every10(MAX, MIN), 0, 99, MIN);
        dueMedian("four", every10(4, 1, 3, 2), 0, 99, 2);
        dueMedian("four, two alike", every10(4, 3, 3, 2), 0, 99, 3);
        dueMedian("six", every10(60, 10, 50, 20, 40, 30), 0, 99, 30);
    }

    private static void medianOfNone() {
        Checks.sentence("11, 0: none");
        dueMedian("new", new RingSeries(3, 3, 3, 1, 2), MIN, MAX, 0);
        RingSeries x = every10In(3, 9, 8, 7, 6);
        int[][] spans = {{MIN, 19}, {21, 29}, {41, MAX}, {40, 20}, {10, 10}};
        dueMedian("all", x, MIN, MAX, 7);
        for (int[] span : spans) {
            dueMedian("none", x, span[0], span[1], 0);
        }
    }

    private static void medianThatIs0() {
        Checks.sentence("11, 0 (which may be one, too)");
        dueMedian("0 in the middle", every10(5, 0, -5), 0, 99, 0);
        dueMedian("0 the lesser of two", every10(5, 0), 0, 99, 0);
        dueMedian("0 not the lesser of two", every10(-5, 0), 0, 99, -5);
        dueMedian("0 alone", every10(5, 0, 7), 20, 20, 0);
    }

    private static void medianOfAsManyAsThereIsRoomFor() {
        Checks.sentence("11, the median of a span, of one up to sixty");
        for (int many = 1; many <= 62; many++) {
            int[] falling = new int[many];
            int[] mixed = new int[many];
            for (int i = 0; i < many; i++) {
                falling[i] = -i;
                mixed[i] = i * 37 % 61;
            }
            int held = Math.min(60, many);
            dueMedian(many + " falling", every10(falling), MIN, MAX, -(many - 1) + (held - 1) / 2);
            RingSeries x = every10(mixed);
            Arrays.sort(mixed, many - held, many);
            dueMedian(many + " mixed", x, MIN, MAX, mixed[many - held + (held - 1) / 2]);
        }
        RingSeries x = every10(5, 9, 1, 7, 3);
        dueMedian("many first", x, 0, 99, 5);
        dueMedian("then few", x, 20, 30, 1);
        dueMedian("then many again", x, 0, 99, 5);
    }
}
