/** The boundary cases of promises 1 to 5: a new object, append, count, start, figure. */
public final class EntriesEdgesTest {
    private static final int MIN = Checks.MIN;
    private static final int MAX = Checks.MAX;
    private static final int[] NO_LEVELS = {-1, 3, 4, 60, MIN, MAX};

    public static void main(String[] args) {
        roomsBroughtWithin();
        widthBroughtWithin();
        kBroughtWithin();
        widthAndKTogether();
        aNewObjectIsEmpty();
        objectsApart();
        aPointComes();
        staleBelow0();
        staleNotLater();
        staleChangesNothing();
        staleWhereAllIsFull();
        afterStaleItGoesOn();
        countOfNoLevel();
        countEmptyToFull();
        startOfNoLevel();
        startOfNoEntry();
        startOfThePointOrTheBucket();
        figureOfAPoint();
        figureOfABucket();
        figureOfNoLevel();
        figureOfNoEntry();
        figureOfNoKind();
        Checks.finish();
    }

    private static void roomsBroughtWithin() {
        Checks.sentence("1, room for points, for buckets of level 1, of level 2 (each 1 .. 60, brought within)");
        int[][] rooms = {{MIN, 1}, {-60, 1}, {-1, 1}, {0, 1}, {1, 1}, {2, 2}, {59, 59}, {60, 60}, {61, 60}, {62, 60},
            {1_000_000, 60}, {MAX, 60}};
        for (int level = 0; level <= 2; level++) {
            for (int[] room : rooms) {
                dueRoom(level, room[0], room[1]);
            }
        }
    }

    /** One level alone gets the number; the others keep 7, which tells a mix-up of the levels. */
    private static void dueRoom(int asked, int given, int room) {
        int[] rooms = {7, 7, 7};
        rooms[asked] = given;
        RingSeries x = new RingSeries(rooms[0], rooms[1], rooms[2], 1, 2);
        for (int i = 0; i < 70; i++) {
            Checks.due("append(" + 2 * i + ", 1)", x.append(2 * i, 1), 0);
            for (int level = 0; level <= 2; level++) {
                int most = level == asked ? room : 7;
                String what = "room " + given + " of level " + asked + ", count(" + level + ") after " + (i + 1);
                Checks.due(what, x.count(level), Math.min(i + 1, most));
            }
        }
    }

    private static void widthBroughtWithin() {
        Checks.sentence("1, the width (1 .. 1,000,000)");
        int[][] widths = {{MIN, 1}, {-1, 1}, {0, 1}, {1, 1}, {2, 2}, {3, 3}, {999_999, 999_999},
            {1_000_000, 1_000_000}, {1_000_001, 1_000_000}, {2_000_000, 1_000_000}, {MAX, 1_000_000}};
        for (int[] width : widths) {
            int w = width[1];
            String what = "width " + width[0] + ", ";
            RingSeries x = Checks.series(9, 9, 9, width[0], 2, w - 1, 1, w, 1, 2 * w - 1 + (w == 1 ? 1 : 0), 1);
            Checks.due(what + "start(1, 0)", x.start(1, 0), 0);
            Checks.due(what + "figure(1, 0, 3)", x.figure(1, 0, 3), 1);
            Checks.due(what + "start(1, 1)", x.start(1, 1), w);
            Checks.due(what + "figure(1, 1, 3)", x.figure(1, 1, 3), w == 1 ? 1 : 2);
            Checks.due(what + "start(2, 0)", x.start(2, 0), 0);
        }
    }

    private static void kBroughtWithin() {
        Checks.sentence("1, K (2 .. 1,000)");
        int[][] ks = {{MIN, 2}, {-1, 2}, {0, 2}, {1, 2}, {2, 2}, {3, 3}, {999, 999}, {1_000, 1_000}, {1_001, 1_000},
            {2_000, 1_000}, {MAX, 1_000}};
        for (int[] k : ks) {
            int wide = 10 * k[1];
            String what = "k " + k[0] + ", ";
            RingSeries x = Checks.series(9, 9, 9, 10, k[0], wide - 1, 1, wide, 1, 2 * wide - 1, 1);
            Checks.due(what + "start(2, 0)", x.start(2, 0), 0);
            Checks.due(what + "figure(2, 0, 3)", x.figure(2, 0, 3), 1);
            Checks.due(what + "start(2, 1)", x.start(2, 1), wide);
            Checks.due(what + "figure(2, 1, 3)", x.figure(2, 1, 3), 2);
            Checks.due(what + "start(1, 0)", x.start(1, 0), wide - 10);
        }
    }

    private static void widthAndKTogether() {
        Checks.sentence("1, the width (1 .. 1,000,000) and K (2 .. 1,000), both at once");
        int[][] both = {{MIN, MIN, 2}, {0, 1, 2}, {1, 2, 2}, {MAX, MAX, 1_000_000_000},
            {1_000_000, 1_000, 1_000_000_000}, {1_000_001, 1_001, 1_000_000_000}, {0, MAX, 1_000}, {MAX, 0, 2_000_000}};
        for (int[] b : both) {
            RingSeries x = Checks.series(9, 9, 9, b[0], b[1], b[2] - 1, 1, b[2], 1, MAX, 1);
            String what = "width " + b[0] + ", k " + b[1] + ", ";
            Checks.due(what + "start(2, 0)", x.start(2, 0), 0);
            Checks.due(what + "start(2, 1)", x.start(2, 1), b[2]);
            Checks.due(what + "start(2, 2)", x.start(2, 2), MAX / b[2] * b[2]);
        }
    }

    private static void aNewObjectIsEmpty() {
        Checks.sentence("1, a new object");
        String empty = " level 0, 0: level 1, 0: level 2, 0: many 0 least 0 greatest 0 sum 0 at 0 steepest -1"
            + " median 0 reach 0 sound true";
        Checks.due("the least", Checks.state(new RingSeries(1, 1, 1, 1, 2)), empty);
        Checks.due("the most", Checks.state(new RingSeries(60, 60, 60, 1_000_000, 1_000)), empty);
        Checks.due("below", Checks.state(new RingSeries(MIN, MIN, MIN, MIN, MIN)), empty);
        Checks.due("above", Checks.state(new RingSeries(MAX, MAX, MAX, MAX, MAX)), empty);
    }

    private static void objectsApart() {
        Checks.sentence("1, one object knows nothing of another");
        RingSeries one = Checks.series(3, 3, 3, 10, 2, 5, 1);
        RingSeries other = new RingSeries(3, 3, 3, 10, 2);
        Checks.due("other, count(0)", other.count(0), 0);
        Checks.due("other, append(4, 2)", other.append(4, 2), 0);
        Checks.due("one, figure(0, 0, 0)", one.figure(0, 0, 0), 1);
        Checks.due("other, figure(0, 0, 0)", other.figure(0, 0, 0), 2);
    }

    private static void aPointComes() {
        Checks.sentence("2, a point comes: 0");
        RingSeries x = new RingSeries(2, 2, 2, 10, 2);
        Checks.due("append(0, 0)", x.append(0, 0), 0);
        Checks.due("a value of 0", Checks.state(x), " level 0, 1: (0 0 0 0 1) level 1, 1: (0 0 0 0 1)"
            + " level 2, 1: (0 0 0 0 1) many 1 least 0 greatest 0 sum 0 at 0 steepest -1 median 0 reach 1 sound true");
        Checks.due("append(1, MIN)", x.append(1, MIN), 0);
        Checks.due("into full rings, append(20, MAX)", x.append(20, MAX), 0);
        Checks.due("the least and the greatest", Checks.state(x), " level 0, 2: (1 -2147483648 -2147483648 -2147483648 1)"
            + " (20 2147483647 2147483647 2147483647 1) level 1, 2: (0 -2147483648 0 -2147483648 2)"
            + " (20 2147483647 2147483647 2147483647 1) level 2, 2: (0 -2147483648 0 -2147483648 2)"
            + " (20 2147483647 2147483647 2147483647 1) many 2 least -2147483648 greatest 2147483647 sum -1"
            + " at 2147483647 steepest 1 median -2147483648 reach 2 sound true");
    }

    /** A refused point may have any value: none may change what the object answers. */
    private static void dueStale(String what, RingSeries x, int... times) {
        String before = Checks.state(x);
        int[] values = {99, MIN, MAX, 0};
        for (int i = 0; i < times.length; i++) {
            int value = values[i % values.length];
            String call = what + ", append(" + times[i] + ", " + value + ")";
            Checks.due(call, x.append(times[i], value), RingSeries.STALE);
        }
        Checks.due(what + ", after it", Checks.state(x), before);
    }

    private static void staleBelow0() {
        Checks.sentence("2, STALE: its time is below 0");
        dueStale("new", new RingSeries(3, 3, 3, 10, 2), -1, -2, MIN, MIN + 1);
        dueStale("one point", Checks.series(3, 3, 3, 10, 2, 0, 5), -1, -2, MIN, MIN + 1);
        dueStale("the last time has come", Checks.series(3, 3, 3, 10, 2, MAX, 5), -1, -2, MIN, MIN + 1);
        RingSeries x = new RingSeries(3, 3, 3, 10, 2);
        x.append(-1, 4);
        Checks.due("append(0, 5) after it", x.append(0, 5), 0);
        Checks.due("figure(1, 0, 2)", x.figure(1, 0, 2), 5);
    }

    private static void staleNotLater() {
        Checks.sentence("2, STALE: not later than the last one's");
        dueStale("the same time", Checks.series(3, 3, 3, 10, 2, 25, 5), 25);
        dueStale("just before", Checks.series(3, 3, 3, 10, 2, 25, 5), 24);
        dueStale("in a bucket before", Checks.series(3, 3, 3, 10, 2, 25, 5), 19);
        dueStale("time 0 twice", Checks.series(3, 3, 3, 10, 2, 0, 5), 0);
        dueStale("the last time twice", Checks.series(3, 3, 3, 10, 2, MAX, 5), MAX, MAX - 1, 0);
        dueStale("between two points", Checks.series(3, 3, 3, 10, 2, 5, 5, 25, 5), 6, 15, 5, 4);
    }

    private static void staleChangesNothing() {
        Checks.sentence("2, nothing is changed");
        dueStale("half full", Checks.series(5, 5, 5, 10, 2, 3, 7, 14, -2, 35, 4), 35, 34, 13, 3, 0, -1, MIN);
    }

    private static void staleWhereAllIsFull() {
        Checks.sentence("2, nothing is changed, in full rings");
        dueStale("just full", Checks.series(2, 2, 2, 10, 2, 3, 7, 24, -2), 24, 23, 3, -1);
        dueStale("wrapped round", Checks.series(2, 2, 2, 10, 2, 3, 7, 24, -2, 55, 4), 55, 54, 3, -1);
        dueStale("room 1", Checks.series(1, 1, 1, 1, 2, 3, 7, 24, -2, 55, 4), 55, 54, 3, -1);
    }

    private static void afterStaleItGoesOn() {
        Checks.sentence("2, nothing is changed: the last time neither");
        RingSeries x = Checks.series(3, 3, 3, 10, 2, 5, 1);
        Checks.due("append(-9, 2)", x.append(-9, 2), RingSeries.STALE);
        Checks.due("append(3, 2)", x.append(3, 2), RingSeries.STALE);
        Checks.due("append(4, 2)", x.append(4, 2), RingSeries.STALE);
        Checks.due("append(5, 2)", x.append(5, 2), RingSeries.STALE);
        Checks.due("append(6, 2)", x.append(6, 2), 0);
        Checks.due("figure(1, 0, 2)", x.figure(1, 0, 2), 3);
    }

    private static void countOfNoLevel() {
        Checks.sentence("3, BAD: none such");
        RingSeries empty = new RingSeries(3, 3, 3, 10, 2);
        RingSeries full = Checks.series(1, 1, 1, 1, 2, 1, 1, 5, 1, 9, 1);
        for (int level : NO_LEVELS) {
            Checks.due("new, count(" + level + ")", empty.count(level), RingSeries.BAD);
            Checks.due("full, count(" + level + ")", full.count(level), RingSeries.BAD);
        }
    }

    private static void countEmptyToFull() {
        Checks.sentence("3, how many entries a level has");
        RingSeries x = new RingSeries(4, 3, 2, 10, 2);
        int[][] counts = {{0, 1, 1, 1}, {9, 2, 1, 1}, {10, 3, 2, 1}, {19, 4, 2, 1}, {20, 4, 3, 2}, {29, 4, 3, 2},
            {30, 4, 3, 2}, {40, 4, 3, 2}, {1_000, 4, 3, 2}};
        for (int level = 0; level <= 2; level++) {
            Checks.due("new, count(" + level + ")", x.count(level), 0);
        }
        for (int[] c : counts) {
            x.append(c[0], 1);
            for (int level = 0; level <= 2; level++) {
                Checks.due("after " + c[0] + ", count(" + level + ")", x.count(level), c[1 + level]);
            }
        }
    }

    private static void startOfNoLevel() {
        Checks.sentence("4, BAD: none such (level)");
        RingSeries empty = new RingSeries(3, 3, 3, 10, 2);
        RingSeries full = Checks.series(1, 1, 1, 1, 2, 1, 1, 5, 1, 9, 1);
        for (int level : NO_LEVELS) {
            for (int i = -1; i <= 1; i++) {
                Checks.due("new, start(" + level + ", " + i + ")", empty.start(level, i), RingSeries.BAD);
                Checks.due("full, start(" + level + ", " + i + ")", full.start(level, i), RingSeries.BAD);
            }
        }
    }

    /** Every i that a level with so many entries has not. */
    private static int[] noEntries(int held) {
        return new int[] {-1, -2, -60, MIN, MIN + 1, held, held + 1, 59, 60, 61, MAX - 1, MAX};
    }

    private static RingSeries[] emptyToFull() {
        return new RingSeries[] {
            new RingSeries(3, 3, 3, 10, 2),
            Checks.series(3, 3, 3, 10, 2, 5, 7),
            Checks.series(3, 3, 3, 10, 2, 5, 7, 25, 8),
            Checks.series(3, 3, 3, 10, 2, 5, 7, 25, 8, 45, 9),
            Checks.series(3, 3, 3, 10, 2, 5, 7, 25, 8, 45, 9, 65, 10, 85, 11),
            Checks.series(1, 1, 1, 1, 2, 5, 7, 25, 8),
        };
    }

    private static void startOfNoEntry() {
        Checks.sentence("4, BAD: none such (entry)");
        for (RingSeries x : emptyToFull()) {
            for (int level = 0; level <= 2; level++) {
                for (int i : noEntries(x.count(level))) {
                    Checks.due(x.count(level) + " held, start(" + level + ", " + i + ")", x.start(level, i), RingSeries.BAD);
                }
            }
        }
    }

    private static void startOfThePointOrTheBucket() {
        Checks.sentence("4, the time of an entry: of the point, or where the bucket begins");
        RingSeries x = Checks.series(3, 3, 3, 10, 2, 5, 7, 25, 8, 39, 9, 65, 10, 90, 11);
        int[][] starts = {{39, 65, 90}, {30, 60, 90}, {20, 60, 80}};
        for (int level = 0; level <= 2; level++) {
            for (int i = 0; i < 3; i++) {
                Checks.due("start(" + level + ", " + i + ")", x.start(level, i), starts[level][i]);
            }
        }
        Checks.due("append(99, 1)", x.append(99, 1), 0);
        Checks.due("a later point of the bucket, start(1, 2)", x.start(1, 2), 90);
        Checks.due("a later point of the bucket, start(2, 2)", x.start(2, 2), 80);
    }

    private static void figureOfAPoint() {
        Checks.sentence("5, of level 0 the value, and 1");
        int[] values = {5, 0, -5, MIN, MAX, -1, 1};
        RingSeries x = new RingSeries(7, 1, 1, 10, 2);
        for (int i = 0; i < values.length; i++) {
            x.append(i, values[i]);
        }
        for (int i = 0; i < values.length; i++) {
            for (int what = 0; what <= 2; what++) {
                Checks.due("figure(0, " + i + ", " + what + ")", x.figure(0, i, what), values[i]);
            }
            Checks.due("figure(0, " + i + ", 3)", x.figure(0, i, 3), 1);
        }
    }

    private static void figureOfABucket() {
        Checks.sentence("5, 0 the least value, 1 the greatest, 2 the sum, 3 how many points");
        RingSeries x = Checks.series(1, 2, 2, 10, 2, 0, 90, 20, 4, 29, -3, 30, 6, 55, 8);
        int[][][] figures = {{{6, 6, 6, 1}, {8, 8, 8, 1}}, {{-3, 6, 7, 3}, {8, 8, 8, 1}}};
        for (int level = 1; level <= 2; level++) {
            for (int i = 0; i < 2; i++) {
                for (int what = 0; what <= 3; what++) {
                    Checks.due("figure(" + level + ", " + i + ", " + what + ")", x.figure(level, i, what),
                        figures[level - 1][i][what]);
                }
            }
        }
    }

    private static void figureOfNoLevel() {
        Checks.sentence("5, 0: none such (level)");
        for (RingSeries x : emptyToFull()) {
            for (int level : NO_LEVELS) {
                for (int what = 0; what <= 3; what++) {
                    Checks.due("figure(" + level + ", 0, " + what + ")", x.figure(level, 0, what), 0);
                }
            }
        }
    }

    private static void figureOfNoEntry() {
        Checks.sentence("5, 0: none such (entry)");
        for (RingSeries x : emptyToFull()) {
            for (int level = 0; level <= 2; level++) {
                for (int i : noEntries(x.count(level))) {
                    for (int what = 0; what <= 3; what++) {
                        Checks.due("figure(" + level + ", " + i + ", " + what + ")", x.figure(level, i, what), 0);
                    }
                }
            }
        }
    }

    private static void figureOfNoKind() {
        Checks.sentence("5, 0: none such (figure)");
        int[] kinds = {-1, -2, MIN, 4, 5, 60, MAX};
        for (RingSeries x : emptyToFull()) {
            for (int level = 0; level <= 2; level++) {
                for (int what : kinds) {
                    Checks.due("figure(" + level + ", 0, " + what + ")", x.figure(level, 0, what), 0);
                }
            }
        }
    }
}
