import java.lang.reflect.Constructor;
import java.lang.reflect.Field;
import java.lang.reflect.Method;
import java.lang.reflect.Modifier;
import java.util.Arrays;
import java.util.Set;
import java.util.TreeSet;

/** The public face is the document's, and nothing beside it can be seen from outside. */
public final class FaceTest {
    private static final Set<String> FACE = new TreeSet<>(Arrays.asList(
        "int BAD", "int STALE",
        "RingSeries[int, int, int, int, int]",
        "int append[int, int]", "int count[int]", "int start[int, int]", "int figure[int, int, int]",
        "int many[int, int]", "int extreme[int, int, int]", "long sum[int, int]", "int at[int, boolean]",
        "int steepest[int, int]", "int median[int, int]", "long reach[int, int]", "boolean sound[]"));

    public static void main(String[] args) {
        Set<String> seen = new TreeSet<>();
        for (Field f : RingSeries.class.getDeclaredFields()) {
            if (!Modifier.isPrivate(f.getModifiers())) {
                seen.add(f.getType() + " " + f.getName());
                Checks.due(f.getName() + " is public static final",
                    f.getModifiers(), Modifier.PUBLIC | Modifier.STATIC | Modifier.FINAL);
            }
        }
        for (Constructor<?> c : RingSeries.class.getDeclaredConstructors()) {
            if (!Modifier.isPrivate(c.getModifiers())) {
                seen.add("RingSeries" + Arrays.toString(c.getParameterTypes()));
                Checks.due("the constructor is public", c.getModifiers(), Modifier.PUBLIC);
            }
        }
        for (Method m : RingSeries.class.getDeclaredMethods()) {
            if (!Modifier.isPrivate(m.getModifiers())) {
                seen.add(m.getReturnType() + " " + m.getName() + Arrays.toString(m.getParameterTypes()));
                Checks.due(m.getName() + " is public", m.getModifiers(), Modifier.PUBLIC);
            }
        }
        Checks.due("the face " + seen, seen.equals(FACE), true);
        namesApart(RingSeries.class);
        stateless(RingSeries.class);
        for (Class<?> inside : RingSeries.class.getDeclaredClasses()) {
            Checks.due(inside + " is static", Modifier.isStatic(inside.getModifiers()), true);
            int wide = inside.getModifiers() & (Modifier.PUBLIC | Modifier.PROTECTED);
            Checks.due(inside + " is not public or protected", wide, 0);
            namesApart(inside);
            stateless(inside);
        }
        Checks.due("constants", RingSeries.BAD + ", " + RingSeries.STALE, "-1, 1");
        Checks.due("it stands for itself alone", RingSeries.class.getSuperclass() == Object.class, true);
        Checks.due("interfaces", RingSeries.class.getInterfaces().length, 0);
        Checks.due("the class is public and final", RingSeries.class.getModifiers(), Modifier.PUBLIC | Modifier.FINAL);
        Checks.finish();
    }

    /** LANGUAGE.md, rule 1: no private method bears the name of a public one. */
    private static void namesApart(Class<?> of) {
        for (Method m : of.getDeclaredMethods()) {
            boolean shown = of == RingSeries.class && Modifier.isPublic(m.getModifiers());
            for (String member : FACE) {
                boolean like = member.matches("\\w+ " + m.getName() + "\\[.*");
                Checks.due(of + ", " + m.getName() + " bears the name of " + member, like && !shown, false);
            }
        }
    }

    /** LANGUAGE.md, rule 5: static fields are final, and none of them holds what calls could change. */
    private static void stateless(Class<?> of) {
        for (Field f : of.getDeclaredFields()) {
            if (Modifier.isStatic(f.getModifiers())) {
                Checks.due(of + ", " + f.getName() + " is final", Modifier.isFinal(f.getModifiers()), true);
                Checks.due(of + ", " + f.getName() + " is a number", f.getType().isPrimitive(), true);
            }
        }
    }
}
