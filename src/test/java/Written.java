import java.util.ArrayList;
import java.util.HashSet;
import java.util.List;
import java.util.Set;

/** A policy as the tests know it, with what is due for it. */
final class Written {
    boolean permits;
    /** _ or @ENTITY or in @ENTITY, of p and of r. */
    final String[] scope = new String[2];
    /** -1 for any. */
    int action;
    final List<Boolean> wanted = new ArrayList<>();
    final List<Integer> places = new ArrayList<>();
    final List<Tree> trees = new ArrayList<>();
    int tokens;

    boolean fits(Tree.World w, int p, int asked, int r) {
        return fits(w, scope[0], "@" + p) && fits(w, scope[1], "@" + r) && (action < 0 || action == asked);
    }

    private static boolean fits(Tree.World w, String scope, String e) {
        return scope.equals("_") || (scope.startsWith("in") ? w.in(e, scope.substring(3)) : scope.equals(e));
    }

    private String kinds(Tree.World w, int which) {
        return scope[which].startsWith("@") ? w.kindsOf(scope[which]) : "e012";
    }

    /** What told says of it: 1 to 6. */
    int verdict(Tree.World w, int p, int asked, int r) {
        if (!fits(w, p, asked, r)) {
            return 1;
        }
        try {
            for (int i = 0; i < trees.size(); i++) {
                Object worth = trees.get(i).worth(w, p, r);
                if (!(worth instanceof Boolean)) {
                    return Tree.TYPE;
                }
                if (!worth.equals(wanted.get(i))) {
                    return 2;
                }
            }
            return 3;
        } catch (Tree.Found error) {
            return error.number;
        }
    }

    /** What holds says of it, by its verdict. */
    static Object holds(int verdict) {
        Object[] answers = {null, false, false, true, "java.lang.UnsupportedOperationException",
            "java.util.NoSuchElementException", "java.lang.ArithmeticException"};
        return answers[verdict];
    }

    /** What check says of it. */
    int wrong(Tree.World w) {
        Set<String> known = new HashSet<>();
        try {
            for (int i = 0; i < trees.size(); i++) {
                if (!trees.get(i).type(w, kinds(w, 0), kinds(w, 1), known).equals("t")) {
                    return places.get(i);
                }
                if (wanted.get(i)) {
                    known.addAll(trees.get(i).makes());
                }
            }
            return PolicyForge.NONE;
        } catch (Tree.Found wrong) {
            return wrong.number;
        }
    }
}
