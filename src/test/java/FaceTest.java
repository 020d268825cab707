import java.lang.reflect.Constructor;
import java.lang.reflect.Field;
import java.lang.reflect.Method;
import java.lang.reflect.Modifier;
import java.util.Arrays;
import java.util.Set;
import java.util.TreeSet;

/** The public face is the document's, and nothing beside it can be seen from outside. */
public final class FaceTest {
    private static final Set<String> FACE = new TreeSet<>(Arrays.asList(
        "int BAD", "int STALE",
        "RingSeries[int, int, int, int, int]",
        "int append[int, int]", "int count[int]", "int start[int, int]", "int figure[int, int, int]",
        "int many[int, int]", "int extreme[int, int, int]", "long sum[int, int]", "int at[int, boolean]",
        "int steepest[int, int]", "int median[int, int]", "long reach[int, int]", "boolean sound[]"));

    public static void main(String[] args) {
        Set<String> seen = new TreeSet<>();
        for (Field f : RingSeries.class.getDeclaredFields()) {
            if (!Modifier.isPrivate(f.getModifiers())) {
                seen.add(f.getType() + " " + f.getName());
                Checks.due(f.getName() + " is public static final",
                    f.getModifiers(), Modifier.PUBLIC | Modifier.STATIC | Modifier.FINAL);
            }
        }
        for (Constructor<?> c : RingSeries.class.getDeclaredConstructors()) {
            if (!Modifier.isPrivate(c.getModifiers())) {
                seen.add("RingSeries" + Arrays.toString(c.getParameterTypes()));
                Checks.due("the constructor is public", c.getModifiers(), Modifier.PUBLIC);
            }
        }
        for (Method m : RingSeries.class.getDeclaredMethods()) {
            if (!Modifier.isPrivate(m.getModifiers())) {
                seen.add(m.getReturnType() + " " + m.getName() + Arrays.toString(m.getParameterTypes()));
                Checks.due(m.getName() + " is public", m.getModifiers(), Modifier.PUBLIC);
            }
        }
        Checks.due("the face " + seen, seen.equals(FACE), true);
        Checks.due("the class is public and final", RingSeries.class.getModifiers(), Modifier.PUBLIC | Modifier.FINAL);
        Checks.finish();
    }
}
