import java.lang.reflect.Constructor;
import java.lang.reflect.Field;
import java.lang.reflect.Member;
import java.lang.reflect.Method;
import java.lang.reflect.Modifier;
import java.util.Arrays;
import java.util.TreeSet;

/** The public face is the document's, and nothing but its own classes can be seen beside it. */
public final class FaceTest {

    private static final String[] FACE = {
        "SheetTrees()",
        "static final int NONE",
        "boolean fit(int, int, int, boolean) IndexOutOfBoundsException",
        "boolean fitted(int, int, int) IndexOutOfBoundsException",
        "boolean gate(int, int, int) IndexOutOfBoundsException",
        "boolean join(int, int, int) IndexOutOfBoundsException",
        "boolean move(int, int) IndexOutOfBoundsException",
        "boolean port(int, int) IndexOutOfBoundsException",
        "boolean remove(int) IndexOutOfBoundsException",
        "boolean rule(int) IllegalArgumentException",
        "boolean undo()",
        "boolean value(int, int, int, long) IndexOutOfBoundsException",
        "int copy(int) IndexOutOfBoundsException",
        "int joined(int, int) IndexOutOfBoundsException",
        "int name(int, int) IndexOutOfBoundsException",
        "int page(int, int) IndexOutOfBoundsException",
        "int pages()",
        "int part(int, int) IllegalArgumentException",
        "int place(int, int) IndexOutOfBoundsException",
        "int sheet()",
        "int told(int)",
        "int units(int) IndexOutOfBoundsException",
        "int variant(int) IndexOutOfBoundsException",
        "int where(int, int, int) IndexOutOfBoundsException",
        "long valueOf(int, int, int) IndexOutOfBoundsException",
    };

    public static void main(String[] args) {
        Class<?> c = SheetTrees.class;
        Check.yes("the class is public", Modifier.isPublic(c.getModifiers()));
        Check.yes("the class is final", Modifier.isFinal(c.getModifiers()));
        Check.same("NONE", SheetTrees.NONE, -1);
        TreeSet<String> seen = new TreeSet<>();
        TreeSet<String> faceNames = new TreeSet<>();
        for (Constructor<?> k : c.getDeclaredConstructors()) {
            if (isSeen(k)) {
                seen.add("SheetTrees(" + types(k.getParameterTypes()) + ")");
            }
        }
        for (Method m : c.getDeclaredMethods()) {
            if (isSeen(m)) {
                Check.no(m.getName() + " is static", Modifier.isStatic(m.getModifiers()));
                seen.add(told(m));
                faceNames.add(m.getName());
            }
        }
        for (Field f : c.getDeclaredFields()) {
            if (isSeen(f)) {
                String mods = Modifier.toString(f.getModifiers()).replace("public ", "");
                seen.add(mods + " " + f.getType() + " " + f.getName());
            }
        }
        TreeSet<String> due = new TreeSet<>(Arrays.asList(FACE));
        Check.yes("the face is " + seen, seen.equals(due));
        for (Method m : c.getDeclaredMethods()) {
            Check.no("private " + m.getName() + " bears a public name", !isSeen(m) && faceNames.contains(m.getName()));
        }
        Check.end();
    }

    private static boolean isSeen(Member m) {
        return !Modifier.isPrivate(m.getModifiers()) && !m.isSynthetic();
    }

    private static String told(Method m) {
        String errors = types(m.getExceptionTypes());
        return m.getReturnType() + " " + m.getName() + "(" + types(m.getParameterTypes()) + ")"
                + (errors.isEmpty() ? "" : " " + errors);
    }

    private static String types(Class<?>[] types) {
        StringBuilder told = new StringBuilder();
        for (Class<?> t : types) {
            told.append(told.length() == 0 ? "" : ", ").append(t.getSimpleName());
        }
        return told.toString();
    }
}
