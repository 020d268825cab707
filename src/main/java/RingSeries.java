/**
 * A series of points in time: the last points themselves, and two rings of buckets that
 * remember the figures of points that are long gone.
 *
 * <p>A point is held like a bucket of width 1: times only grow, so no two points ever share
 * one, and all three levels can be the same kind of ring.
 */
public final class RingSeries {
    public static final int BAD = -1, STALE = 1;

    private static final int MOST_ROOM = 60;
    private static final int MOST_WIDTH = 1_000_000;
    private static final int LEAST_K = 2;
    private static final int MOST_K = 1_000;

    private static final int LEAST = 0;
    private static final int GREATEST = 1;
    private static final int SUM = 2;
    private static final int MANY = 3;
    private static final int FIGURES = 4;

    private final Ring points;
    private final Ring fine;
    private final Ring coarse;
    /** The row that median sorts in, made once so that no question makes an object. */
    private final int[] sorted;
    /** Below every good time at first, so that one comparison refuses negative times too. */
    private int lastTime = -1;

    public RingSeries(int points, int fine, int coarse, int width, int k) {
        int fineWidth = within(width, 1, MOST_WIDTH);
        // At most a thousand million, so the product stays an int.
        int coarseWidth = fineWidth * within(k, LEAST_K, MOST_K);
        int room = within(points, 1, MOST_ROOM);
        this.points = new Ring(room, 1);
        this.fine = new Ring(within(fine, 1, MOST_ROOM), fineWidth);
        this.coarse = new Ring(within(coarse, 1, MOST_ROOM), coarseWidth);
        this.sorted = new int[room];
    }

    public int append(int time, int value) {
        if (time <= lastTime) {
            return STALE;
        }
        lastTime = time;
        points.take(time, value);
        fine.take(time, value);
        coarse.take(time, value);
        return 0;
    }

    public int count(int level) {
        Ring ring = ringOf(level);
        return ring == null ? BAD : ring.size();
    }

    public int start(int level, int i) {
        Ring ring = ringOf(level);
        return ring == null ? BAD : ring.startOf(i);
    }

    public int figure(int level, int i, int what) {
        Ring ring = ringOf(level);
        return ring == null ? 0 : ring.figureOf(i, what);
    }

    public int many(int from, int to) {
        int first = firstIn(from);
        return endOf(first, to) - first;
    }

    public int extreme(int from, int to, int sign) {
        if (sign != 1 && sign != -1) {
            return 0;
        }
        int first = firstIn(from);
        return points.together(first, endOf(first, to), sign < 0 ? LEAST : GREATEST);
    }

    public long sum(int from, int to) {
        int first = firstIn(from);
        int end = endOf(first, to);
        long all = 0;
        for (int i = first; i < end; i++) {
            all += valueOf(i);
        }
        return all;
    }

    public int at(int time, boolean smooth) {
        int next = points.firstFrom(0, time + 1L);
        if (next == 0) {
            return 0;
        }
        boolean between = smooth && next < points.size();
        return between ? onLine(next - 1, time) : valueOf(next - 1);
    }

    public int steepest(int from, int to) {
        int first = firstIn(from);
        int end = endOf(first, to);
        int best = BAD;
        long most = 0;
        for (int i = first + 1; i < end; i++) {
            long rise = riseTo(i);
            if (best == BAD || rise > most) {
                best = i;
                most = rise;
            }
        }
        return best;
    }

    public int median(int from, int to) {
        int first = firstIn(from);
        int end = endOf(first, to);
        if (first == end) {
            return 0;
        }
        for (int i = first; i < end; i++) {
            insertSorted(i - first, valueOf(i));
        }
        return sorted[(end - first - 1) / 2];
    }

    public long reach(int from, int to) {
        long known = points.manyWhollyIn(from, to);
        long last = Math.min(to, points.startOf(0) - 1L);
        known += fine.manyWhollyIn(from, last);
        // With few fine buckets the first of them may begin after the first point: both bound.
        last = Math.min(last, fine.startOf(0) - 1L);
        return known + coarse.manyWhollyIn(from, last);
    }

    public boolean sound() {
        return coarse.agreesWith(fine) && fine.agreesWith(points);
    }

    private static int within(int number, int least, int most) {
        return Math.max(least, Math.min(most, number));
    }

    private Ring ringOf(int level) {
        switch (level) {
            case 0:
                return points;
            case 1:
                return fine;
            case 2:
                return coarse;
            default:
                return null;
        }
    }

    private int firstIn(int from) {
        return points.firstFrom(0, from);
    }

    /** Never below first, so that a span that ends before it begins is an empty one. */
    private int endOf(int first, int to) {
        return points.firstFrom(first, to + 1L);
    }

    private int valueOf(int i) {
        return points.figureOf(i, SUM);
    }

    /** Two ints may lie further apart than an int can tell. */
    private long riseTo(int i) {
        return (long) valueOf(i) - valueOf(i - 1);
    }

    private int onLine(int earlier, int time) {
        int began = points.startOf(earlier);
        long gap = (long) points.startOf(earlier + 1) - began;
        // Times only grow, so this never is; it stands here because the gap divides.
        if (gap <= 0) {
            return valueOf(earlier);
        }
        // A rise is below 2^32 and a time below 2^31, so the product fits a long.
        long risen = riseTo(earlier + 1) * ((long) time - began) / gap;
        return (int) (valueOf(earlier) + risen);
    }

    private void insertSorted(int length, int value) {
        int place = length;
        while (place > 0 && sorted[place - 1] > value) {
            sorted[place] = sorted[place - 1];
            place--;
        }
        sorted[place] = value;
    }

    /** The last entries of one level, told from the oldest on. */
    private static final class Ring {
        private final int room;
        private final int width;
        private final int[] starts;
        private final int[][] figures;
        private int oldest;
        private int held;
        /** The start of the newest entry that had to go; entries go oldest first. */
        private int gone = -1;

        Ring(int room, int width) {
            this.room = room;
            this.width = width;
            this.starts = new int[room];
            this.figures = new int[FIGURES][room];
        }

        int size() {
            return held;
        }

        int startOf(int i) {
            return has(i) ? starts[slot(i)] : BAD;
        }

        int figureOf(int i, int what) {
            return has(i) && what >= 0 && what < FIGURES ? figures[what][slot(i)] : 0;
        }

        void take(int time, int value) {
            int begin = time - time % width;
            boolean opened = held == 0 || startOf(held - 1) != begin;
            if (opened) {
                open(begin);
            }
            int newest = slot(held - 1);
            for (int what = 0; what < FIGURES; what++) {
                int own = what == MANY ? 1 : value;
                int[] row = figures[what];
                row[newest] = opened ? own : joined(row[newest], own, what);
            }
        }

        /** The first entry, of those from i on, that does not start before a time; else the end. */
        int firstFrom(int i, long time) {
            int entry = i;
            while (entry < held && startOf(entry) < time) {
                entry++;
            }
            return entry;
        }

        int together(int first, int end, int what) {
            int all = first < end ? figureOf(first, what) : 0;
            for (int i = first + 1; i < end; i++) {
                all = joined(all, figureOf(i, what), what);
            }
            return all;
        }

        long manyWhollyIn(long from, long last) {
            long all = 0;
            for (int i = 0; i < held; i++) {
                if (startOf(i) >= from && endOfEntry(i) <= last + 1) {
                    all += figureOf(i, MANY);
                }
            }
            return all;
        }

        boolean agreesWith(Ring finer) {
            int first = 0;
            for (int i = 0; i < held; i++) {
                first = finer.firstFrom(first, startOf(i));
                int end = finer.firstFrom(first, endOfEntry(i));
                boolean allKept = finer.gone < startOf(i);
                if (allKept && !hasFiguresOf(finer, first, end, i)) {
                    return false;
                }
                first = end;
            }
            return true;
        }

        private boolean hasFiguresOf(Ring finer, int first, int end, int i) {
            for (int what = 0; what < FIGURES; what++) {
                if (figureOf(i, what) != finer.together(first, end, what)) {
                    return false;
                }
            }
            return true;
        }

        private static int joined(int one, int other, int what) {
            switch (what) {
                case LEAST:
                    return Math.min(one, other);
                case GREATEST:
                    return Math.max(one, other);
                default:
                    // Sums wrap round: the document gives them 32 bits.
                    return one + other;
            }
        }

        private void open(int begin) {
            if (held < room) {
                held++;
            } else {
                gone = starts[oldest];
                oldest = oldest + 1 < room ? oldest + 1 : 0;
            }
            starts[slot(held - 1)] = begin;
        }

        private boolean has(int i) {
            return i >= 0 && i < held;
        }

        private int slot(int i) {
            int slot = oldest + i;
            return slot < room ? slot : slot - room;
        }

        /** The first time after an entry: the last bucket may end later than any int. */
        private long endOfEntry(int i) {
            return (long) startOf(i) + width;
        }
    }
}
