import java.lang.reflect.Field;

/**
 * No run of calls can make sound() answer false, so this test breaks figures behind the
 * object's back, one at a time, and knows for that how the state is held.
 */
public final class SoundTest {
    public static void main(String[] args) throws ReflectiveOperationException {
        for (int what = 0; what < 4; what++) {
            dueBroken("points", 1, what);
            dueBroken("fine", 1, what);
            dueBroken("coarse", 0, what);
            dueBroken("coarse", 1, what);
        }
        dueFreeWhereSomeAreGone();
        Checks.finish();
    }

    /** Two coarse buckets of two fine ones each, of two points each, in rings that are just full. */
    private static RingSeries full(int points, int fine) {
        RingSeries x = new RingSeries(points, fine, 2, 10, 2);
        for (int i = 0; i < 8; i++) {
            x.append(5 * i, i);
        }
        return x;
    }

    private static void dueBroken(String ring, int slot, int what) throws ReflectiveOperationException {
        RingSeries x = full(8, 4);
        Checks.due("sound() unbroken", x.sound(), true);
        // Least and greatest show it only if the broken value is beyond the others.
        int by = what == 0 ? -1000 : 1000;
        figures(x, ring)[what][slot] += by;
        Checks.due("sound() with " + ring + " slot " + slot + " figure " + what + " broken", x.sound(), false);
        figures(x, ring)[what][slot] -= by;
        Checks.due("sound() mended", x.sound(), true);
    }

    private static void dueFreeWhereSomeAreGone() throws ReflectiveOperationException {
        // Point 0 is gone: the first fine bucket, and it alone, cannot be compared.
        RingSeries pointGone = full(7, 4);
        figures(pointGone, "fine")[2][0] += 5;
        figures(pointGone, "coarse")[2][0] += 5;
        Checks.due("sound() where a point is gone", pointGone.sound(), true);
        figures(pointGone, "fine")[2][1] += 5;
        figures(pointGone, "coarse")[2][0] += 5;
        Checks.due("sound() in the next fine bucket", pointGone.sound(), false);
        // The first fine bucket is gone: the first coarse bucket, and it alone, cannot be compared.
        RingSeries bucketGone = full(8, 3);
        figures(bucketGone, "coarse")[3][0] += 5;
        Checks.due("sound() where a fine bucket is gone", bucketGone.sound(), true);
        figures(bucketGone, "coarse")[3][1] += 5;
        Checks.due("sound() in the next coarse bucket", bucketGone.sound(), false);
        // Both fine buckets of the first coarse one are gone, but none of the second one's.
        RingSeries twoGone = full(8, 2);
        figures(twoGone, "coarse")[3][0] += 5;
        Checks.due("sound() where all fine buckets are gone", twoGone.sound(), true);
        figures(twoGone, "coarse")[0][1] -= 5;
        Checks.due("sound() where all are just kept", twoGone.sound(), false);
    }

    private static int[][] figures(RingSeries x, String name) throws ReflectiveOperationException {
        Field ring = RingSeries.class.getDeclaredField(name);
        ring.setAccessible(true);
        Object held = ring.get(x);
        Field figures = held.getClass().getDeclaredField("figures");
        figures.setAccessible(true);
        return (int[][]) figures.get(held);
    }
}
