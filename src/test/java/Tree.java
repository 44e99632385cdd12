import java.util.HashSet;
import java.util.List;
import java.util.Set;

/**
 * A tree of objects that a test makes first and writes as a text behind: what it is worth and what
 * is wrong in it are found here in another way than the program's, by sets and exceptions.
 */
final class Tree {
    final String op;
    final Tree left;
    final Tree right;
    int place = -1;

    Tree(String op, Tree left, Tree right) {
        this.op = op;
        this.left = left;
        this.right = right;
    }

    /** An error or a wrong token: what is thrown has its number. */
    static final class Found extends RuntimeException {
        private static final long serialVersionUID = 1L;
        final int number;

        Found(int number) {
            super(null, null, false, false);
            this.number = number;
        }
    }

    static final int TYPE = 4;
    static final int MISSING = 5;
    static final int OVERFLOW = 6;

    /** The entities and declarations as plain rows. */
    static final class World {
        final int[] kind = new int[16];
        final boolean[][] parent = new boolean[16][16];
        final Object[][] attribute = new Object[16][3];
        final String[][] declared = new String[3][3];
        final boolean[][] sure = new boolean[3][3];

        boolean in(String e, String f) {
            if (e.equals(f)) {
                return true;
            }
            for (int g = 0; g < 16; g++) {
                if (parent[number(e)][g] && in("@" + g, f)) {
                    return true;
                }
            }
            return false;
        }

        String kindsOf(String e) {
            int k = kind[number(e)];
            return k < 0 ? "e" : "e" + k;
        }

        boolean conforms(int e) {
            boolean so = kind[e] >= 0;
            for (int a = 0; a < 3 && so; a++) {
                Object value = attribute[e][a];
                String type = declared[kind[e]][a];
                so = value == null ? type == null || !sure[kind[e]][a] : typeOf(value).equals(type);
            }
            return so;
        }

        private String typeOf(Object value) {
            return value instanceof Integer ? "n" : value instanceof Boolean ? "t" : kindsOf((String) value);
        }
    }

    static int number(String e) {
        return Integer.parseInt(e.substring(1));
    }

    private int level() {
        switch (op) {
            case "||":
                return 0;
            case "&&":
                return 1;
            case "+":
                return 3;
            case "-":
                return right == null ? 5 : 3;
            case "*":
                return 4;
            case "!":
                return 5;
            default:
                return op.startsWith(".") ? 6 : left != null ? 2 : 7;
        }
    }

    /** Writes the tokens; the answer is the place in the row of the first one that is 7 deep, or -1. */
    int write(List<String> tokens, List<Tree> owners, int least, int deep) {
        if (deep >= 7) {
            int fault = tokens.size();
            write(tokens, owners, least, 0);
            return fault;
        }
        if (level() < least) {
            put(tokens, owners, "(", null);
            int fault = write(tokens, owners, 0, deep + 1);
            put(tokens, owners, ")", null);
            return fault;
        }
        if (left == null) {
            put(tokens, owners, op, this);
            return -1;
        }
        if (level() == 5) {
            put(tokens, owners, op, this);
            return left.write(tokens, owners, 5, deep + 1);
        }
        int first = left.write(tokens, owners, level() == 2 ? 3 : level(), deep);
        put(tokens, owners, op.startsWith(".") ? "." : op.startsWith("has") ? "has" : op, this);
        if (right == null) {
            put(tokens, owners, op.substring(op.length() - 1), null);
            return first;
        }
        int second = right.write(tokens, owners, level() + 1, deep);
        return first >= 0 ? first : second;
    }

    private static void put(List<String> tokens, List<Tree> owners, String token, Tree owner) {
        tokens.add(token);
        owners.add(owner);
    }

    /** An Integer, a Boolean or the name of an entity. */
    Object worth(World w, int p, int r) {
        if (left == null) {
            return leaf(p, r);
        }
        Object a = left.worth(w, p, r);
        if (op.equals("&&") || op.equals("||")) {
            boolean first = want(Boolean.class, a);
            return first == op.equals("||") ? a : want(Boolean.class, right.worth(w, p, r));
        }
        if (right == null) {
            return worthOfOne(w, a);
        }
        Object b = right.worth(w, p, r);
        switch (op) {
            case "==":
                return a.equals(b);
            case "!=":
                return !a.equals(b);
            case "in":
                return w.in(want(String.class, a), want(String.class, b));
            default:
                return worthOfNumbers(want(Integer.class, a), want(Integer.class, b));
        }
    }

    private Object leaf(int p, int r) {
        switch (op) {
            case "true":
            case "false":
                return op.equals("true");
            case "p":
                return "@" + p;
            case "r":
                return "@" + r;
            default:
                return op.startsWith("@") ? (Object) ("@" + number(op)) : (Object) Integer.parseInt(op);
        }
    }

    private Object worthOfOne(World w, Object a) {
        if (op.equals("!")) {
            return !want(Boolean.class, a);
        }
        if (op.equals("-")) {
            return exact(() -> Math.negateExact(want(Integer.class, a)));
        }
        Object found = w.attribute[number(want(String.class, a))]["xyz".indexOf(op.charAt(op.length() - 1))];
        if (op.startsWith("has")) {
            return found != null;
        }
        if (found == null) {
            throw new Found(MISSING);
        }
        return found;
    }

    private Object worthOfNumbers(int a, int b) {
        switch (op) {
            case "<":
                return a < b;
            case "<=":
                return a <= b;
            case "+":
                return exact(() -> Math.addExact(a, b));
            case "-":
                return exact(() -> Math.subtractExact(a, b));
            default:
                return exact(() -> Math.multiplyExact(a, b));
        }
    }

    private static Integer exact(java.util.function.IntSupplier sum) {
        try {
            return sum.getAsInt();
        } catch (ArithmeticException e) {
            throw new Found(OVERFLOW);
        }
    }

    private static <T> T want(Class<T> sort, Object a) {
        if (!sort.isInstance(a)) {
            throw new Found(TYPE);
        }
        return sort.cast(a);
    }

    /** n, t, or e with the kinds behind it; what is wrong is thrown with its place. */
    String type(World w, String pKinds, String rKinds, Set<String> known) {
        if (left == null) {
            return leafType(w, pKinds, rKinds);
        }
        String a = left.type(w, pKinds, rKinds, known);
        if (right != null) {
            Set<String> more = new HashSet<>(known);
            if (op.equals("&&")) {
                more.addAll(left.makes());
            }
            String b = right.type(w, pKinds, rKinds, more);
            return typeOfTwo(a, b);
        }
        switch (op) {
            case "!":
                return wanted(a.equals("t"), "t");
            case "-":
                return wanted(a.equals("n"), "n");
            default:
                wanted(a.startsWith("e"), "e");
                return op.startsWith("has") ? "t" : attributeType(w, a.substring(1), known);
        }
    }

    private String leafType(World w, String pKinds, String rKinds) {
        switch (op) {
            case "true":
            case "false":
                return "t";
            case "p":
                return pKinds;
            case "r":
                return rKinds;
            default:
                return op.startsWith("@") ? w.kindsOf(op) : "n";
        }
    }

    private String typeOfTwo(String a, String b) {
        String both = "" + a.charAt(0) + b.charAt(0);
        switch (op) {
            case "==":
            case "!=":
                return wanted(both.equals("nn") || both.equals("tt") || both.equals("ee"), "t");
            case "&&":
            case "||":
                return wanted(both.equals("tt"), "t");
            case "in":
                return wanted(both.equals("ee"), "t");
            case "<":
            case "<=":
                return wanted(both.equals("nn"), "t");
            default:
                return wanted(both.equals("nn"), "n");
        }
    }

    private String attributeType(World w, String kinds, Set<String> known) {
        int a = "xyz".indexOf(op.charAt(1));
        Set<String> types = new HashSet<>();
        boolean sure = true;
        for (int i = 0; i < kinds.length(); i++) {
            types.add(w.declared[kinds.charAt(i) - '0'][a]);
            sure &= w.sure[kinds.charAt(i) - '0'][a];
        }
        wanted(types.size() == 1 && !types.contains(null), "");
        wanted(sure || known.contains(left.op + op), "");
        return types.iterator().next();
    }

    private String wanted(boolean so, String type) {
        if (!so) {
            throw new Found(place);
        }
        return type;
    }

    Set<String> makes() {
        Set<String> made = new HashSet<>();
        if (op.startsWith("has") && (left.op.equals("p") || left.op.equals("r"))) {
            made.add(left.op + "." + op.charAt(op.length() - 1));
        } else if (op.equals("&&")) {
            made.addAll(left.makes());
            made.addAll(right.makes());
        } else if (op.equals("||")) {
            made.addAll(left.makes());
            made.retainAll(right.makes());
        }
        return made;
    }
}
