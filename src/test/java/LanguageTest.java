import java.io.IOException;
import java.lang.reflect.Array;
import java.lang.reflect.Executable;
import java.lang.reflect.Field;
import java.lang.reflect.Method;
import java.lang.reflect.Modifier;
import java.nio.file.Files;
import java.nio.file.Path;
import java.util.ArrayList;
import java.util.Arrays;
import java.util.IdentityHashMap;
import java.util.List;
import java.util.Map;
import java.util.TreeSet;
import java.util.regex.Matcher;
import java.util.regex.Pattern;

/** The rules of ../shared/LANGUAGE.md, as far as they can be seen by reading the program's file and classes. */
public final class LanguageTest {
    private static final Path PROGRAM = Path.of("src/main/java/PolicyForge.java");
    private static final String EXCEPTIONS = "IllegalStateException|IllegalArgumentException|ArithmeticException"
            + "|UnsupportedOperationException|NoSuchElementException";
    private static final List<Class<?>> CONSTANTS =
            List.of(int.class, long.class, boolean.class, char.class, String.class);
    private static final int ROOM_OF_ONE = 10_000;

    public static void main(String[] args) throws IOException {
        String program = Files.readString(PROGRAM);
        String bare = program.replaceAll("(?s)/\\*.*?\\*/", "").replaceAll("//[^\n]*", "")
                .replaceAll("\"[^\"\n]*\"", "\"\"").replaceAll("'[^'\n]+'", "' '");
        library(bare);
        exceptions(bare);
        sizes(bare);
        for (Class<?> c : classes()) {
            fields(c);
            parameters(c);
        }
        Due.is("rule 11: classes, at most twelve", true, () -> classes().size() <= 12);
        room();
        Due.end("LanguageTest");
    }

    /** The program's classes but for those that javac adds. */
    private static List<Class<?>> classes() {
        List<Class<?>> all = new ArrayList<>(Arrays.asList(PolicyForge.class.getDeclaredClasses()));
        all.add(PolicyForge.class);
        return all;
    }

    private static List<String> found(String pattern, String text) {
        List<String> all = new ArrayList<>();
        Matcher matcher = Pattern.compile(pattern).matcher(text);
        while (matcher.find()) {
            all.add(matcher.group());
        }
        return all;
    }

    private static void library(String bare) {
        Due.is("rule 4: imports", List.of("import java.util.NoSuchElementException;"),
                () -> found("import [^;]*;", bare));
        Due.is("rules 2, 4: lambdas, references, full names", List.of(),
                () -> found("->|::|\\bjavax?\\.(?!util\\.NoSuchElementException;)", bare));
        Due.is("rules 4, 13: the library that is used", new TreeSet<>(List.of("Math.min")),
                () -> new TreeSet<>(found("\\b(System|Math|Arrays|Integer|Long|Character|List|Thread)\\.\\w+", bare)));
        Due.is("rule 3: doubles and floats", List.of(), () -> found("\\b(double|float)\\b", bare));
        Due.is("rule 10: texts joined by +", List.of(), () -> found("\"\"\\s*\\+|\\+\\s*\"\"", bare));
        Due.is("rule 6: words that are left out", List.of(),
                () -> found("\\b(try|catch|finally|synchronized|assert|instanceof|volatile|transient)\\b", bare));
    }

    private static void exceptions(String bare) {
        Due.is("rule 6: throws of another form", List.of(),
                () -> found("\\bthrow\\b(?! new (" + EXCEPTIONS + ")\\((\"\")?\\);)[^;]*;", bare));
        Due.is("rule 6: there are throws", true, () -> !found("\\bthrow new\\b", bare).isEmpty());
        Due.is("rule 5: static blocks", List.of(), () -> found("\\bstatic\\s*\\{", bare));
    }

    /** A method begins four or eight blanks from the left and ends with a } there. */
    private static List<String> methods(String bare) {
        List<String> all = new ArrayList<>();
        for (String indent : new String[] {"    ", "        "}) {
            all.addAll(found("(?m)^" + indent + "(?! |\\}|return|if|for|while|switch)[^;={}]*\\([^;={}]*\\{$"
                    + "(?s:.*?)^" + indent + "\\}$", bare));
        }
        return all;
    }

    private static void sizes(String bare) {
        List<String> all = methods(bare);
        Due.is("rule 11: methods were found", true, () -> all.size() > 100);
        for (String method : all) {
            String head = method.strip().split("\n")[0];
            Due.is("rule 11: some sixty lines: " + head, true, () -> method.split("\n").length <= 60);
            boolean makes = head.matches("((public|private) )?[A-Z]\\w*\\(.*");
            Due.is("rule 6: a throw in a constructor: " + head, false, () -> makes && method.contains("throw new"));
        }
    }

    private static void fields(Class<?> c) {
        int own = 0;
        for (Field f : c.getDeclaredFields()) {
            if (f.isSynthetic() || f.isEnumConstant()) {
                continue;
            }
            boolean isStatic = Modifier.isStatic(f.getModifiers());
            boolean keptValues = c.isEnum() && f.getType() == c.arrayType();
            boolean constant = CONSTANTS.contains(f.getType()) || keptValues;
            Due.is("rule 5: " + f, true, () -> !isStatic || Modifier.isFinal(f.getModifiers()) && constant);
            Due.is("rule 1: " + f, true,
                    () -> Modifier.isPrivate(f.getModifiers()) || c == PolicyForge.class && isStatic);
            Due.is("rule 2: " + f, true, () -> !c.isEnum() || isStatic || CONSTANTS.contains(f.getType()));
            own += isStatic ? 0 : 1;
        }
        int many = own;
        Due.is("rule 11: the fields of " + c + ", some twenty", true, () -> many <= 20);
    }

    private static void parameters(Class<?> c) {
        List<Executable> all = new ArrayList<>(Arrays.asList(c.getDeclaredMethods()));
        all.addAll(Arrays.asList(c.getDeclaredConstructors()));
        for (Executable e : all) {
            Due.is("rule 11: the parameters of " + e, true, () -> e.getParameterCount() <= 7);
        }
        for (Method m : c.getDeclaredMethods()) {
            Due.is("rule 6: equals, hashCode, toString of one's own in " + c, false,
                    () -> List.of("equals", "hashCode", "toString").contains(m.getName()));
        }
    }

    /** An object takes its room when it is made, and no more behind 512 calls. */
    private static void room() {
        PolicyForge forge = new PolicyForge();
        long before = roomOf(forge);
        for (int i = 0; i < 64; i++) {
            forge.entity(i % 16, i % 3);
            Due.write(forge, "permit(in@1,_,_)when{p has x&&p.x<1}");
            forge.policy(i % 6);
            forge.ask(i % 16, 0, 0);
        }
        Due.is("rule 12: more fields and elements behind 512 calls", false, () -> roomOf(forge) > before);
        Due.is("rule 12: fields and elements of an object", true, () -> before < ROOM_OF_ONE);
    }

    private static long roomOf(Object start) {
        Map<Object, Boolean> seen = new IdentityHashMap<>();
        List<Object> todo = new ArrayList<>(List.of(start));
        long room = 0;
        for (int i = 0; i < todo.size(); i++) {
            Object one = todo.get(i);
            if (seen.put(one, true) == null) {
                List<Object> parts = partsOf(one);
                room += 1 + parts.size();
                parts.removeIf(part -> part == null || part instanceof Enum || part instanceof Number
                        || part instanceof Boolean || part instanceof Character);
                todo.addAll(parts);
            }
        }
        return room;
    }

    private static List<Object> partsOf(Object one) {
        List<Object> parts = new ArrayList<>();
        if (one.getClass().isArray()) {
            for (int i = 0; i < Array.getLength(one); i++) {
                parts.add(Array.get(one, i));
            }
            return parts;
        }
        for (Field f : one.getClass().getDeclaredFields()) {
            if (!Modifier.isStatic(f.getModifiers())) {
                parts.add(read(f, one));
            }
        }
        return parts;
    }

    private static Object read(Field f, Object one) {
        try {
            f.setAccessible(true);
            return f.get(one);
        } catch (IllegalAccessException e) {
            throw new IllegalStateException(e);
        }
    }
}
