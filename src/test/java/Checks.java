/** What the tests share: makes objects, compares answers, tells the wrong ones, ends the program. */
final class Checks {
    static final int MIN = Integer.MIN_VALUE;
    static final int MAX = Integer.MAX_VALUE;

    private static int checked = 0;
    private static int wrong = 0;
    private static String sentence = "";

    private Checks() {
    }

    /** The sentence of the document that the answers from here on are about. */
    static void sentence(String words) {
        sentence = words + ": ";
    }

    static void due(String call, long got, long want) {
        checked++;
        if (got != want) {
            wrong++;
            System.out.println(sentence + call + " answered " + got + ", due is " + want);
        }
    }

    static void due(String call, boolean got, boolean want) {
        due(call, got ? 1 : 0, want ? 1 : 0);
    }

    static void due(String call, String got, String want) {
        checked++;
        if (!got.equals(want)) {
            wrong++;
            System.out.println(sentence + call + " answered " + got + ", due is " + want);
        }
    }

    /** An object to which points have come: pairs of a time and a value. */
    static RingSeries series(int points, int fine, int coarse, int width, int k, int... pairs) {
        RingSeries x = new RingSeries(points, fine, coarse, width, k);
        for (int i = 0; i < pairs.length; i += 2) {
            due("append(" + pairs[i] + ", " + pairs[i + 1] + ")", x.append(pairs[i], pairs[i + 1]), 0);
        }
        return x;
    }

    /** All that an object with small rings answers, so that two moments can be compared. */
    static String state(RingSeries x) {
        StringBuilder all = new StringBuilder();
        for (int level = 0; level <= 2; level++) {
            all.append(" level ").append(level).append(", ").append(x.count(level)).append(':');
            for (int i = 0; i < x.count(level); i++) {
                all.append(" (").append(x.start(level, i));
                for (int what = 0; what <= 3; what++) {
                    all.append(' ').append(x.figure(level, i, what));
                }
                all.append(')');
            }
        }
        all.append(" many ").append(x.many(MIN, MAX)).append(" least ").append(x.extreme(MIN, MAX, -1));
        all.append(" greatest ").append(x.extreme(MIN, MAX, 1)).append(" sum ").append(x.sum(MIN, MAX));
        all.append(" at ").append(x.at(MAX, false)).append(" steepest ").append(x.steepest(MIN, MAX));
        all.append(" median ").append(x.median(MIN, MAX)).append(" reach ").append(x.reach(MIN, MAX));
        return all.append(" sound ").append(x.sound()).toString();
    }

    static void finish() {
        System.out.println(checked + " answers looked at, " + wrong + " of them wrong");
        if (wrong != 0 || checked == 0) {
            System.exit(1);
        }
    }
}
