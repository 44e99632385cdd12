import java.lang.reflect.Constructor;
import java.lang.reflect.Field;
import java.lang.reflect.Method;
import java.lang.reflect.Modifier;
import java.util.Arrays;
import java.util.TreeSet;

/** The public face: every member of the document, and no other that can be seen. */
public final class FaceTest {
    private static final String[] MEMBERS = {
        "public static final int REFUSED",
        "public static final int NONE",
        "public PolicyForge()",
        "public int text(long) throws IllegalArgumentException, IllegalStateException",
        "public int policy(int) throws IllegalArgumentException",
        "public int where()",
        "public boolean drop(int) throws IllegalArgumentException",
        "public boolean entity(int, int) throws IllegalArgumentException",
        "public boolean parent(int, int)"
                + " throws IllegalArgumentException, NoSuchElementException, IllegalStateException",
        "public int set(int, int, int, int) throws IllegalArgumentException, NoSuchElementException",
        "public void declare(int, int, int, int, boolean) throws IllegalArgumentException",
        "public boolean conforms(int) throws IllegalArgumentException",
        "public int check(int) throws IllegalArgumentException, NoSuchElementException",
        "public boolean holds(int, int, int, int) throws IllegalArgumentException, IllegalStateException,"
                + " UnsupportedOperationException, NoSuchElementException, ArithmeticException",
        "public boolean ask(int, int, int) throws IllegalArgumentException",
        "public int told(int)",
        "public boolean isIn(int, int) throws IllegalArgumentException",
        "public int count(int)",
    };

    public static void main(String[] args) {
        TreeSet<String> seen = new TreeSet<>();
        for (Field f : PolicyForge.class.getDeclaredFields()) {
            if (isSeen(f.getModifiers())) {
                seen.add(Modifier.toString(f.getModifiers()) + " " + f.getType().getSimpleName() + " " + f.getName());
            }
        }
        for (Constructor<?> c : PolicyForge.class.getDeclaredConstructors()) {
            if (isSeen(c.getModifiers())) {
                seen.add(Modifier.toString(c.getModifiers()) + " PolicyForge" + names("(", ")", c.getParameterTypes()));
            }
        }
        for (Method m : PolicyForge.class.getDeclaredMethods()) {
            if (isSeen(m.getModifiers())) {
                String thrown = m.getExceptionTypes().length == 0 ? "" : names(" throws ", "", m.getExceptionTypes());
                seen.add(Modifier.toString(m.getModifiers()) + " " + m.getReturnType().getSimpleName() + " "
                        + m.getName() + names("(", ")", m.getParameterTypes()) + thrown);
            }
        }
        Due.is("the members", new TreeSet<>(Arrays.asList(MEMBERS)), () -> seen);
        for (Method m : PolicyForge.class.getDeclaredMethods()) {
            boolean hides = Modifier.isPrivate(m.getModifiers()) && namesAPublicOne(m.getName());
            Due.is("a private method with a public one's name: " + m.getName(), false, () -> hides);
        }
        for (Class<?> inside : PolicyForge.class.getDeclaredClasses()) {
            Due.is("is static: " + inside.getName(), true, () -> Modifier.isStatic(inside.getModifiers()));
            Due.is("is seen: " + inside.getName(), false, () -> Modifier.isPublic(inside.getModifiers()));
        }
        Due.is("the class", "public final", () -> Modifier.toString(PolicyForge.class.getModifiers()));
        Due.is("REFUSED", -1, () -> PolicyForge.REFUSED);
        Due.is("NONE", -2, () -> PolicyForge.NONE);
        Due.end("FaceTest");
    }

    private static boolean namesAPublicOne(String name) {
        for (Method m : PolicyForge.class.getMethods()) {
            if (m.getDeclaringClass() == PolicyForge.class && m.getName().equals(name)) {
                return true;
            }
        }
        return false;
    }

    private static boolean isSeen(int modifiers) {
        return !Modifier.isPrivate(modifiers);
    }

    private static String names(String before, String behind, Class<?>[] types) {
        StringBuilder all = new StringBuilder(before);
        for (int i = 0; i < types.length; i++) {
            all.append(i == 0 ? "" : ", ").append(types[i].getSimpleName());
        }
        return all.append(behind).toString();
    }
}
