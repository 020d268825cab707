import java.lang.reflect.Field;

/**
 * The boundary cases of promise 13, sound. No run of calls can make it answer false, so this
 * test breaks figures behind the object's back, one at a time, and knows for that how the
 * state is held.
 */
public final class SoundTest {
    private static final int[] FIGURES = {0, 1, 2, 3};

    public static void main(String[] args) throws ReflectiveOperationException {
        trueWhateverComes();
        sumsThatWrapRound();
        coarseBucketsInAllFigures();
        fineBucketsInAllFigures();
        pointsInAllFigures();
        whereThePointsAreGone();
        whereTheFineBucketsAreGone();
        whereTheFirstPartBeginsLater();
        inRingsThatWrappedRound();
        inTheLastTimes();
        Checks.finish();
    }

    private static void trueWhateverComes() {
        Checks.sentence("13, whether each bucket has what its parts have together");
        Checks.due("new", new RingSeries(3, 3, 3, 10, 2).sound(), true);
        int[] rooms = {1, 2, 3, 59, 60};
        for (int points : rooms) {
            for (int fine : rooms) {
                for (int coarse : rooms) {
                    RingSeries x = new RingSeries(points, fine, coarse, 3, 2);
                    for (int i = 0; i < 200; i++) {
                        x.append(i + i % 4, i * i % 31 - 15);
                        Checks.due("after " + i, x.sound(), true);
                    }
                }
            }
        }
    }

    private static void sumsThatWrapRound() {
        Checks.sentence("13, in all figures: sums have 32 bits on both sides");
        int max = Checks.MAX;
        int min = Checks.MIN;
        Checks.due("up", Checks.series(9, 9, 9, 2, 2, 0, max, 1, max, 2, max, 3, max).sound(), true);
        Checks.due("down", Checks.series(9, 9, 9, 2, 2, 0, min, 1, min, 2, min, 3, -1).sound(), true);
    }

    /** Two coarse buckets of two fine ones each, of two points each: times 0, 5, 10 .. 35, values 0 .. 7. */
    private static RingSeries eight(int points, int fine) {
        RingSeries x = new RingSeries(points, fine, 2, 10, 2);
        for (int i = 0; i < 8; i++) {
            x.append(5 * i, i);
        }
        return x;
    }

    private static void coarseBucketsInAllFigures() throws ReflectiveOperationException {
        Checks.sentence("13, each level 2 bucket has in all figures what its level 1 buckets have together");
        for (int what : FIGURES) {
            dueCoarse(eight(8, 4), 0, what, false);
            dueCoarse(eight(8, 4), 20, what, false);
            dueCoarse(eight(1, 4), 0, what, false);
            dueCoarse(eight(1, 4), 20, what, false);
        }
    }

    private static void fineBucketsInAllFigures() throws ReflectiveOperationException {
        Checks.sentence("13, and each level 1 bucket what its points have, likewise");
        for (int what : FIGURES) {
            for (int start = 0; start < 40; start += 10) {
                dueFine(eight(8, 4), start, what, false);
            }
        }
    }

    private static void pointsInAllFigures() throws ReflectiveOperationException {
        Checks.sentence("13, what its points have");
        for (int what : FIGURES) {
            for (int start = 0; start < 40; start += 5) {
                duePoint(eight(8, 4), start, what, false);
            }
        }
    }

    private static void whereThePointsAreGone() throws ReflectiveOperationException {
        Checks.sentence("13, if all of them are kept (none of its is gone), points");
        for (int what : FIGURES) {
            // Point 0 is gone: the fine bucket from 0 on, and it alone, can't be compared.
            dueFine(eight(7, 4), 0, what, true);
            dueFine(eight(7, 4), 10, what, false);
            // Points 0 and 5 are gone: the fine bucket from 10 on still has all of its own.
            dueFine(eight(6, 4), 0, what, true);
            dueFine(eight(6, 4), 10, what, false);
            // Of the bucket from 30 on one point is kept, then it has both.
            dueFine(eight(1, 4), 30, what, true);
            dueFine(eight(2, 4), 30, what, false);
            dueFine(eight(2, 4), 20, what, true);
        }
    }

    private static void whereTheFineBucketsAreGone() throws ReflectiveOperationException {
        Checks.sentence("13, if all of them are kept (none of its is gone), level 1 buckets");
        for (int what : FIGURES) {
            // The fine bucket from 0 on is gone: the coarse one from 0 on, and it alone, can't be compared.
            dueCoarse(eight(8, 3), 0, what, true);
            dueCoarse(eight(8, 3), 20, what, false);
            // Both of the coarse one from 0 on are gone, none of the next.
            dueCoarse(eight(8, 2), 0, what, true);
            dueCoarse(eight(8, 2), 20, what, false);
            // Of the coarse bucket from 20 on one fine bucket is kept.
            dueCoarse(eight(8, 1), 20, what, true);
            // That points are gone is no reason to let a coarse bucket be.
            dueCoarse(eight(1, 2), 20, what, false);
        }
    }

    private static void whereTheFirstPartBeginsLater() throws ReflectiveOperationException {
        Checks.sentence("13, none of its is gone, though the first one begins after the bucket does");
        for (int what : FIGURES) {
            dueFine(Checks.series(2, 9, 9, 10, 2, 13, 1, 17, 2), 10, what, false);
            dueCoarse(Checks.series(2, 9, 9, 10, 2, 13, 1, 17, 2), 0, what, false);
            // The point 5 is gone, but from the bucket before; so is the fine bucket from 0 on.
            dueFine(Checks.series(2, 9, 9, 10, 2, 5, 9, 13, 1, 17, 2), 10, what, false);
            dueFine(Checks.series(2, 9, 9, 10, 2, 9, 9, 11, 1, 17, 2), 10, what, false);
            dueCoarse(Checks.series(9, 1, 9, 10, 2, 5, 9, 33, 1, 37, 2), 20, what, false);
            dueCoarse(Checks.series(9, 1, 9, 10, 2, 19, 9, 33, 1, 37, 2), 20, what, false);
            // The point 11 is gone from the very bucket, though a later one still is there.
            dueFine(Checks.series(1, 9, 9, 10, 2, 11, 1, 17, 2), 10, what, true);
        }
    }

    private static void inRingsThatWrappedRound() throws ReflectiveOperationException {
        Checks.sentence("13, likewise in rings that have wrapped round");
        for (int more = 8; more < 20; more++) {
            for (int what : FIGURES) {
                int last = 5 * (more - 1);
                int lastFine = last - last % 10;
                int lastCoarse = last - last % 20;
                dueCoarse(grown(5, 3, more), lastCoarse, what, false);
                dueFine(grown(5, 3, more), lastFine, what, false);
                dueFine(grown(5, 3, more), lastFine - 10, what, false);
                duePoint(grown(5, 3, more), last, what, false);
                // Five points reach back to the third fine bucket only if the last one is not full.
                dueFine(grown(5, 3, more), lastFine - 20, what, last % 10 != 0);
                // Three fine buckets are all of the coarse one before only if the last coarse one has one.
                dueCoarse(grown(5, 3, more), lastCoarse - 20, what, lastFine != lastCoarse);
            }
        }
    }

    private static RingSeries grown(int points, int fine, int many) {
        RingSeries x = new RingSeries(points, fine, 3, 10, 2);
        for (int i = 0; i < many; i++) {
            x.append(5 * i, i * 7 % 11);
        }
        return x;
    }

    private static void inTheLastTimes() throws ReflectiveOperationException {
        Checks.sentence("13, likewise where buckets end after the last time");
        for (int what : FIGURES) {
            dueCoarse(atTheEnd(), 2_000_000_000, what, false);
            dueFine(atTheEnd(), 2_147_000_000, what, false);
            duePoint(atTheEnd(), Checks.MAX, what, false);
        }
    }

    private static RingSeries atTheEnd() {
        return Checks.series(9, 9, 9, 1_000_000, 1_000, 0, 1, 2_000_000_000, 2, Checks.MAX - 1, 3, Checks.MAX, 4);
    }

    /** Breaks a coarse bucket alone. */
    private static void dueCoarse(RingSeries x, int start, int what, boolean want) throws ReflectiveOperationException {
        change(x, "coarse", start, what);
        Checks.due("level 2 from " + start + " on, figure " + what + " broken, sound()", x.sound(), want);
    }

    /** Breaks a fine bucket, and its coarse one along with it, so that only its points can tell. */
    private static void dueFine(RingSeries x, int start, int what, boolean want) throws ReflectiveOperationException {
        int broken = change(x, "fine", start, what);
        int coarse = coarseOf(x, start);
        if (what <= 1) {
            row(x, "coarse", what)[slot(x, "coarse", coarse)] = broken;
        } else {
            change(x, "coarse", coarse, what);
        }
        Checks.due("level 1 from " + start + " on, figure " + what + " broken, sound()", x.sound(), want);
    }

    private static void duePoint(RingSeries x, int start, int what, boolean want) throws ReflectiveOperationException {
        change(x, "points", start, what);
        Checks.due("level 0 at " + start + ", figure " + what + " broken, sound()", x.sound(), want);
    }

    /** Least and greatest are changed to lie beyond all others: else others could hide it. */
    private static int change(RingSeries x, String ring, int start, int what) throws ReflectiveOperationException {
        return row(x, ring, what)[slot(x, ring, start)] += what == 0 ? -1000 : 1000;
    }

    private static int coarseOf(RingSeries x, int start) {
        int found = RingSeries.BAD;
        for (int i = 0; i < x.count(2); i++) {
            found = x.start(2, i) <= start ? x.start(2, i) : found;
        }
        return found;
    }

    private static int slot(RingSeries x, String ring, int start) throws ReflectiveOperationException {
        int[] starts = (int[]) field(field(x, ring), "starts");
        for (int slot = 0; slot < starts.length; slot++) {
            if (starts[slot] == start) {
                return slot;
            }
        }
        throw new IllegalStateException(ring + " has no entry from " + start + " on");
    }

    private static int[] row(RingSeries x, String ring, int what) throws ReflectiveOperationException {
        return ((int[][]) field(field(x, ring), "figures"))[what];
    }

    private static Object field(Object of, String name) throws ReflectiveOperationException {
        Field field = of.getClass().getDeclaredField(name);
        field.setAccessible(true);
        return field.get(of);
    }
}
