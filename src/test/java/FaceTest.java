import java.lang.reflect.Constructor;
import java.lang.reflect.Field;
import java.lang.reflect.Method;
import java.lang.reflect.Modifier;
import java.util.TreeSet;

/** The public face: nothing but what the document lists can be seen from outside. */
final class FaceTest {
    private static final String[] DUE = {
        "public ForestHouse()",
        "public int ForestHouse.cost(int,int,int) throws java.lang.IndexOutOfBoundsException",
        "public int ForestHouse.count(int,int,int) throws java.lang.IndexOutOfBoundsException",
        "public int ForestHouse.next(int) throws java.lang.IndexOutOfBoundsException",
        "public int ForestHouse.node(int,int) throws java.lang.IndexOutOfBoundsException,"
            + "java.lang.IllegalArgumentException",
        "public int ForestHouse.production(int,int,int,int,int) throws java.lang.IllegalArgumentException,"
            + "java.lang.UnsupportedOperationException,java.lang.IllegalStateException",
        "public int ForestHouse.put(int) throws java.lang.IllegalArgumentException,"
            + "java.lang.UnsupportedOperationException",
        "public int ForestHouse.tree(int,int,int,int) throws java.lang.IndexOutOfBoundsException,"
            + "java.lang.IllegalArgumentException,java.util.NoSuchElementException",
        "public static final int ForestHouse.NONE",
        "public void ForestHouse.clear()",
        "public void ForestHouse.cut(int) throws java.lang.IllegalArgumentException",
    };

    public static void main(String[] args) {
        Check check = new Check();
        TreeSet<String> due = new TreeSet<>(java.util.List.of(DUE));
        TreeSet<String> seen = new TreeSet<>();
        for (Constructor<?> c : ForestHouse.class.getDeclaredConstructors()) {
            add(seen, c.getModifiers(), c.toGenericString());
        }
        for (Method m : ForestHouse.class.getDeclaredMethods()) {
            add(seen, m.getModifiers(), m.toGenericString());
        }
        for (Field f : ForestHouse.class.getDeclaredFields()) {
            add(seen, f.getModifiers(), f.toGenericString());
        }
        check.same("the face", due.toString(), seen.toString());
        check.same("the class", "public final", Modifier.toString(ForestHouse.class.getModifiers()));
        for (Class<?> inside : ForestHouse.class.getDeclaredClasses()) {
            check.due(inside + " is static", 1, () -> Modifier.isStatic(inside.getModifiers()) ? 1 : 0);
        }
        check.due("NONE", -1, () -> ForestHouse.NONE);
        check.end();
    }

    private static void add(TreeSet<String> seen, int modifiers, String text) {
        if (!Modifier.isPrivate(modifiers)) {
            seen.add(text);
        }
    }
}
