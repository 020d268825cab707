import java.math.BigInteger;
import java.util.ArrayList;
import java.util.Collections;
import java.util.List;
import java.util.TreeSet;

/**
 * Long runs of calls, and every small series, each answer against a model that keeps every point
 * that ever came and works each answer out anew from the words of the document.
 */
public final class ModelTest {
    private static final int RUNS = 1500;
    private static final int CALLS = 512;

    private static long state = 20_261_115L;

    public static void main(String[] args) {
        for (int run = 0; run < RUNS; run++) {
            oneRun(run);
        }
        everySmallSeries();
        Checks.finish();
    }

    /** Rings of up to three entries, every choice of the times 0 .. 5, every span of them: no chance in it. */
    private static void everySmallSeries() {
        for (int rooms = 0; rooms < 27; rooms++) {
            for (int widths = 0; widths < 4; widths++) {
                for (int chosen = 0; chosen < 1 << 6; chosen++) {
                    smallSeries(1 + rooms % 3, 1 + rooms / 3 % 3, 1 + rooms / 9, 1 + widths % 2, 2 + widths / 2, chosen);
                }
            }
        }
    }

    private static void smallSeries(int points, int fine, int coarse, int width, int k, int chosen) {
        RingSeries x = new RingSeries(points, fine, coarse, width, k);
        Model m = new Model(points, fine, coarse, width, k);
        String name = "(" + points + ", " + fine + ", " + coarse + ", " + width + ", " + k + "), times";
        for (int time = 0; time < 6; time++) {
            if ((chosen >> time & 1) == 1) {
                name += " " + time;
                int value = (time * time + chosen) % 7 - 3;
                Checks.due(name + ", append", x.append(time, value), m.append(time, value));
            }
        }
        for (int level = 0; level <= 2; level++) {
            dueLevel(name + ", level " + level, x, m, level);
        }
        for (int from = -1; from <= 6; from++) {
            Checks.due(name + ", at " + from, x.at(from, false), m.at(from, false));
            Checks.due(name + ", at " + from + ", smooth", x.at(from, true), m.at(from, true));
            for (int to = -1; to <= 6; to++) {
                dueSpan(name + ", span " + from + " .. " + to, x, m, from, to);
            }
        }
        Checks.due(name + ", sound()", x.sound(), true);
    }

    private static void dueLevel(String name, RingSeries x, Model m, int level) {
        Checks.due(name + ", count", x.count(level), m.count(level));
        for (int i = -1; i <= 3; i++) {
            Checks.due(name + ", start of " + i, x.start(level, i), m.start(level, i));
            for (int what = -1; what <= 4; what++) {
                Checks.due(name + ", figure " + what + " of " + i, x.figure(level, i, what), m.figure(level, i, what));
            }
        }
    }

    private static void dueSpan(String name, RingSeries x, Model m, int from, int to) {
        Checks.due(name + ", many", x.many(from, to), m.valuesOf(from, to).size());
        Checks.due(name + ", the least", x.extreme(from, to, -1), m.extreme(from, to, -1));
        Checks.due(name + ", the greatest", x.extreme(from, to, 1), m.extreme(from, to, 1));
        Checks.due(name + ", sum", x.sum(from, to), m.sum(from, to));
        Checks.due(name + ", steepest", x.steepest(from, to), m.steepest(from, to));
        Checks.due(name + ", median", x.median(from, to), m.median(from, to));
        Checks.due(name + ", reach", x.reach(from, to), m.reach(from, to));
    }

    /** A fixed row of numbers, so that every run of this test is the same. */
    private static int next(int bound) {
        state = state * 6364136223846793005L + 1442695040888963407L;
        return (int) ((state >>> 33) % bound);
    }

    private static int pick(int... numbers) {
        return numbers[next(numbers.length)];
    }

    private static void oneRun(int run) {
        int points = pick(-3, 0, 1, 2, 3, 5, 17, 59, 60, 61, 1000);
        int fine = pick(-3, 0, 1, 2, 3, 5, 17, 59, 60, 61, 1000);
        int coarse = pick(-3, 0, 1, 2, 3, 5, 17, 59, 60, 61, 1000);
        int width = pick(Integer.MIN_VALUE, 0, 1, 2, 3, 7, 10, 100, 999_999, 1_000_000, 1_000_001, Integer.MAX_VALUE);
        int k = pick(-1, 0, 1, 2, 3, 5, 10, 1_000, 1_001, Integer.MAX_VALUE);
        RingSeries x = new RingSeries(points, fine, coarse, width, k);
        Model m = new Model(points, fine, coarse, width, k);
        String name = "run " + run + " (" + points + ", " + fine + ", " + coarse + ", " + width + ", " + k + "): ";
        int step = pick(1, 2, 5, 20, 1_000_000, 20_000_000);
        int asked = pick(2, 4, 12);
        for (int call = 0; call < CALLS; call++) {
            if (next(asked) != 0) {
                append(name, x, m, step);
            } else {
                ask(name, x, m, step);
            }
        }
    }

    private static int value() {
        switch (next(4)) {
            case 0:
                return pick(Integer.MIN_VALUE, Integer.MAX_VALUE, Integer.MIN_VALUE + 1, 0, -1, 1);
            case 1:
                return next(Integer.MAX_VALUE) * pick(1, -1);
            default:
                return next(21) - 10;
        }
    }

    private static void append(String name, RingSeries x, Model m, int step) {
        int last = m.times.isEmpty() ? -1 : m.times.get(m.times.size() - 1);
        long wanted = (long) last + 1 + next(step);
        int time = wanted > Integer.MAX_VALUE || next(40) == 0
            ? pick(-1, Integer.MIN_VALUE, last, last - 1, Math.max(0, last), 0) : (int) wanted;
        if (next(3000) == 0) {
            time = Integer.MAX_VALUE - next(3);
        }
        int value = value();
        Checks.due(name + "append(" + time + ", " + value + ")", x.append(time, value), m.append(time, value));
    }

    /** Near the points, at the edges of buckets, or anywhere. */
    private static int time(Model m, int step) {
        int last = m.times.isEmpty() ? 0 : m.times.get(m.times.size() - 1);
        switch (next(6)) {
            case 0:
                return pick(Integer.MIN_VALUE, -1, 0, 1, last, last + 1, last - 1, Integer.MAX_VALUE);
            case 1:
                return m.times.isEmpty() ? 0 : m.times.get(next(m.times.size())) + next(3) - 1;
            case 2:
                return next(last / m.width + 1) * m.width - next(2);
            case 3:
                return next(last / m.coarseWidth + 1) * m.coarseWidth - next(2);
            case 4:
                return last - next(Math.min(last, 80 * step) + 1);
            default:
                return next(Integer.MAX_VALUE);
        }
    }

    private static void ask(String name, RingSeries x, Model m, int step) {
        int a = time(m, step);
        int b = time(m, step);
        int from = next(10) == 0 ? a : Math.min(a, b);
        int to = from == a ? b : a;
        int level = next(12) == 0 ? pick(-1, 3, Integer.MIN_VALUE, Integer.MAX_VALUE) : next(3);
        int i = next(8) == 0 ? pick(-1, Integer.MIN_VALUE, Integer.MAX_VALUE, 60) : next(1 + Math.max(1, m.count(level)));
        int what = next(8) == 0 ? pick(-1, 4, Integer.MIN_VALUE, Integer.MAX_VALUE) : next(4);
        int sign = next(8) == 0 ? pick(0, 2, -2, Integer.MIN_VALUE, Integer.MAX_VALUE) : pick(1, -1);
        String span = "(" + from + ", " + to + ")";
        switch (next(11)) {
            case 0:
                Checks.due(name + "count(" + level + ")", x.count(level), m.count(level));
                break;
            case 1:
                Checks.due(name + "start(" + level + ", " + i + ")", x.start(level, i), m.start(level, i));
                break;
            case 2:
                Checks.due(name + "figure(" + level + ", " + i + ", " + what + ")",
                    x.figure(level, i, what), m.figure(level, i, what));
                break;
            case 3:
                Checks.due(name + "many" + span, x.many(from, to), m.valuesOf(from, to).size());
                break;
            case 4:
                Checks.due(name + "extreme" + span + sign, x.extreme(from, to, sign), m.extreme(from, to, sign));
                break;
            case 5:
                Checks.due(name + "sum" + span, x.sum(from, to), m.sum(from, to));
                break;
            case 6:
                Checks.due(name + "at(" + a + ", true)", x.at(a, true), m.at(a, true));
                Checks.due(name + "at(" + a + ", false)", x.at(a, false), m.at(a, false));
                break;
            case 7:
                Checks.due(name + "steepest" + span, x.steepest(from, to), m.steepest(from, to));
                break;
            case 8:
                Checks.due(name + "median" + span, x.median(from, to), m.median(from, to));
                break;
            case 9:
                Checks.due(name + "reach" + span, x.reach(from, to), m.reach(from, to));
                break;
            default:
                Checks.due(name + "sound()", x.sound(), true);
                break;
        }
    }

    private static final class Model {
        private final int[] rooms;
        private final int width;
        private final int coarseWidth;
        private final List<Integer> times = new ArrayList<>();
        private final List<Integer> values = new ArrayList<>();

        Model(int points, int fine, int coarse, int width, int k) {
            rooms = new int[] {brought(points, 1, 60), brought(fine, 1, 60), brought(coarse, 1, 60)};
            this.width = brought(width, 1, 1_000_000);
            coarseWidth = this.width * brought(k, 2, 1_000);
        }

        private static int brought(int n, int least, int most) {
            return n < least ? least : n > most ? most : n;
        }

        int append(int time, int value) {
            if (time < 0 || !times.isEmpty() && time <= times.get(times.size() - 1)) {
                return 1;
            }
            times.add(time);
            values.add(value);
            return 0;
        }

        private int widthOf(int level) {
            return level == 0 ? 1 : level == 1 ? width : coarseWidth;
        }

        /** The beginnings of the entries that a level keeps. */
        private List<Integer> kept(int level) {
            TreeSet<Integer> all = new TreeSet<>();
            for (int time : times) {
                all.add(time / widthOf(level) * widthOf(level));
            }
            List<Integer> list = new ArrayList<>(all);
            return list.subList(Math.max(0, list.size() - rooms[level]), list.size());
        }

        int count(int level) {
            return level < 0 || level > 2 ? -1 : kept(level).size();
        }

        int start(int level, int i) {
            return i < 0 || i >= count(level) ? -1 : kept(level).get(i);
        }

        private List<Integer> valuesOfBucket(int level, int start) {
            List<Integer> list = new ArrayList<>();
            for (int p = 0; p < times.size(); p++) {
                if (times.get(p) / widthOf(level) == start / widthOf(level)) {
                    list.add(values.get(p));
                }
            }
            return list;
        }

        int figure(int level, int i, int what) {
            if (i < 0 || i >= count(level)) {
                return 0;
            }
            List<Integer> all = valuesOfBucket(level, kept(level).get(i));
            switch (what) {
                case 0:
                    return Collections.min(all);
                case 1:
                    return Collections.max(all);
                case 2:
                    return total(all).intValue();
                case 3:
                    return all.size();
                default:
                    return 0;
            }
        }

        private static BigInteger total(List<Integer> all) {
            BigInteger sum = BigInteger.ZERO;
            for (int value : all) {
                sum = sum.add(BigInteger.valueOf(value));
            }
            return sum;
        }

        private int firstKept() {
            return Math.max(0, times.size() - rooms[0]);
        }

        List<Integer> valuesOf(int from, int to) {
            List<Integer> list = new ArrayList<>();
            for (int p = firstKept(); p < times.size(); p++) {
                if (times.get(p) >= from && times.get(p) <= to) {
                    list.add(values.get(p));
                }
            }
            return list;
        }

        int extreme(int from, int to, int sign) {
            List<Integer> all = valuesOf(from, to);
            if (all.isEmpty() || sign != 1 && sign != -1) {
                return 0;
            }
            return sign == 1 ? Collections.max(all) : Collections.min(all);
        }

        long sum(int from, int to) {
            return total(valuesOf(from, to)).longValueExact();
        }

        int at(int time, boolean smooth) {
            int found = -1;
            for (int p = firstKept(); p < times.size(); p++) {
                found = times.get(p) <= time ? p : found;
            }
            if (found < 0) {
                return 0;
            }
            int value = values.get(found);
            if (!smooth || found + 1 == times.size()) {
                return value;
            }
            BigInteger rise = BigInteger.valueOf(values.get(found + 1)).subtract(BigInteger.valueOf(value));
            BigInteger part = rise.multiply(BigInteger.valueOf(time - times.get(found)));
            BigInteger gap = BigInteger.valueOf(times.get(found + 1) - times.get(found));
            return BigInteger.valueOf(value).add(part.divide(gap)).intValueExact();
        }

        int steepest(int from, int to) {
            int best = -1;
            long most = Long.MIN_VALUE;
            for (int p = firstKept() + 1; p < times.size(); p++) {
                long rise = (long) values.get(p) - values.get(p - 1);
                if (times.get(p - 1) >= from && times.get(p) <= to && rise > most) {
                    best = p - firstKept();
                    most = rise;
                }
            }
            return best;
        }

        int median(int from, int to) {
            List<Integer> all = valuesOf(from, to);
            Collections.sort(all);
            return all.isEmpty() ? 0 : all.get((all.size() - 1) / 2);
        }

        long reach(int from, int to) {
            long known = valuesOf(from, to).size();
            if (times.isEmpty()) {
                return known;
            }
            long firstTime = times.get(firstKept());
            long fineBegins = kept(1).get(0);
            for (int level = 1; level <= 2; level++) {
                for (int start : kept(level)) {
                    long last = (long) start + widthOf(level) - 1;
                    boolean finer = last >= firstTime || level == 2 && last >= fineBegins;
                    if (!finer && start >= from && last <= to) {
                        known += valuesOfBucket(level, start).size();
                    }
                }
            }
            return known;
        }
    }
}
