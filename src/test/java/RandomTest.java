import java.util.ArrayList;
import java.util.HashSet;
import java.util.List;
import java.util.Set;

/**
 * Promises 3, 4, 10 to 15 over texts that are made by chance (the same ones in each run): the
 * answers are compared with those of Tree, which the texts are written from.
 */
public final class RandomTest {
    private static final int WORLDS = 1500;
    private static final int TEXTS_OF_EACH = 12;
    private static final String[] MORE = {
        "permit", "when", "unless", "in", "has", "p", "x", "(", ")", "{", "}", ",", ".", "_", "+", "-", "*", "!",
        "==", "<", "&&", "||", "7", "10", "@3", "@16", "1234567", "true", "$", "=", "pp",
    };

    private long seed = 20261115L;
    private final int[] seen = new int[7];
    private int checkedWrong = 0;
    private int checkedRight = 0;
    private int deep = 0;

    public static void main(String[] args) {
        RandomTest test = new RandomTest();
        for (int i = 0; i < WORLDS; i++) {
            test.world();
        }
        System.out.println("RandomTest saw verdicts " + java.util.Arrays.toString(test.seen) + ", wrong "
                + test.checkedWrong + ", right " + test.checkedRight + ", too deep " + test.deep);
        Due.is("all verdicts and checks were seen", true, test::sawAll);
        Due.end("RandomTest");
    }

    private Object sawAll() {
        boolean all = checkedWrong > 100 && checkedRight > 100 && deep > 10;
        for (int verdict = 1; verdict < seen.length; verdict++) {
            all &= seen[verdict] > 100;
        }
        return all;
    }

    private int next(int bound) {
        seed = seed * 6364136223846793005L + 1442695040888963407L;
        return (int) ((seed >>> 33) % bound);
    }

    private boolean chance(int percent) {
        return next(100) < percent;
    }

    private void world() {
        PolicyForge x = new PolicyForge();
        Tree.World w = new Tree.World();
        java.util.Arrays.fill(w.kind, -1);
        for (int turn = 0; turn < 8; turn++) {
            makeEntity(x, w, next(6));
        }
        for (int turn = 0; turn < 10; turn++) {
            giveParent(x, w, next(6), next(6));
            giveAttribute(x, w, next(6), next(3));
        }
        for (int kind = 0; kind < 3; kind++) {
            for (int a = 0; a < 3; a++) {
                declare(x, w, kind, a);
            }
        }
        for (int e = 0; e < 6; e++) {
            compareEntity(x, w, e);
        }
        for (int turn = 0; turn < TEXTS_OF_EACH; turn++) {
            compareText(x, w);
        }
        compareAsk(x, w);
    }

    private void makeEntity(PolicyForge x, Tree.World w, int e) {
        int kind = next(3);
        boolean isNew = w.kind[e] < 0;
        Due.is("entity", isNew, () -> x.entity(e, kind));
        w.kind[e] = kind;
        w.attribute[e] = new Object[3];
        w.parent[e] = new boolean[16];
    }

    private void giveParent(PolicyForge x, Tree.World w, int e, int f) {
        Object want = !w.parent[e][f];
        if (w.kind[e] < 0 || w.kind[f] < 0) {
            want = "java.util.NoSuchElementException";
        } else if (w.in("@" + f, "@" + e)) {
            want = "java.lang.IllegalStateException";
        } else {
            w.parent[e][f] = true;
        }
        Due.is("parent", want, () -> x.parent(e, f));
    }

    private void giveAttribute(PolicyForge x, Tree.World w, int e, int a) {
        int sort = next(4);
        int v = sort == 3 ? next(6) : chance(20) ? Integer.MIN_VALUE : next(4) - 1;
        Object old = w.attribute[e][a];
        Object want = old == null ? 0 : old instanceof Integer ? 1 : old instanceof Boolean ? 2 : 3;
        Object[] values = {null, v, v != 0, "@" + v};
        if (w.kind[e] < 0) {
            want = "java.util.NoSuchElementException";
        } else {
            w.attribute[e][a] = values[sort];
        }
        Due.is("set", want, () -> x.set(e, a, sort, v));
    }

    private void declare(PolicyForge x, Tree.World w, int kind, int a) {
        // mostly alike over kinds, so that some texts are right
        int sort = chance(80) ? a + 1 : next(4);
        int of = chance(80) ? 1 : next(3);
        boolean sure = chance(60);
        x.declare(kind, a, sort, of, sure);
        w.declared[kind][a] = new String[] {null, "n", "t", "e" + of}[sort];
        w.sure[kind][a] = sure;
    }

    private void compareEntity(PolicyForge x, Tree.World w, int e) {
        boolean conforms = w.kind[e] >= 0;
        for (int a = 0; a < 3 && conforms; a++) {
            Object value = w.attribute[e][a];
            String type = w.declared[w.kind[e]][a];
            String got = value instanceof Integer ? "n" : value instanceof Boolean ? "t" : null;
            if (value instanceof String) {
                got = w.kindsOf((String) value);
            }
            conforms = value == null ? type == null || !w.sure[w.kind[e]][a] : got.equals(type);
        }
        Due.is("conforms", conforms, () -> x.conforms(e));
        for (int f = 0; f < 6; f++) {
            int g = f;
            Due.is("isIn", w.in("@" + e, "@" + f), () -> x.isIn(e, g));
        }
    }

    /** A policy as the tests know it: the latest that was read for each number. */
    private static final class Written {
        boolean permits;
        final String[] scope = new String[2];
        int action;
        final List<Boolean> wanted = new ArrayList<>();
        final List<Integer> places = new ArrayList<>();
        final List<Tree> trees = new ArrayList<>();
        int tokens;

        boolean fits(Tree.World w, int p, int asked, int r) {
            return fits(w, scope[0], "@" + p) && fits(w, scope[1], "@" + r) && (action < 0 || action == asked);
        }

        private static boolean fits(Tree.World w, String scope, String e) {
            return scope.equals("_") || (scope.startsWith("in") ? w.in(e, scope.substring(3)) : scope.equals(e));
        }

        String kinds(Tree.World w, int which) {
            return scope[which].startsWith("@") ? w.kindsOf(scope[which]) : "e012";
        }

        int verdict(Tree.World w, int p, int asked, int r) {
            if (!fits(w, p, asked, r)) {
                return 1;
            }
            try {
                for (int i = 0; i < trees.size(); i++) {
                    Object worth = trees.get(i).worth(w, p, r);
                    if (!(worth instanceof Boolean)) {
                        return Tree.TYPE;
                    }
                    if (!worth.equals(wanted.get(i))) {
                        return 2;
                    }
                }
                return 3;
            } catch (Tree.Found error) {
                return error.number;
            }
        }

        int wrong(Tree.World w) {
            Set<String> known = new HashSet<>();
            try {
                for (int i = 0; i < trees.size(); i++) {
                    if (!trees.get(i).type(w, kinds(w, 0), kinds(w, 1), known).equals("t")) {
                        return places.get(i);
                    }
                    if (wanted.get(i)) {
                        known.addAll(trees.get(i).makes());
                    }
                }
                return PolicyForge.NONE;
            } catch (Tree.Found wrong) {
                return wrong.number;
            }
        }
    }

    private final Written[] policies = new Written[6];

    private void compareText(PolicyForge x, Tree.World w) {
        Written made = new Written();
        List<String> tokens = new ArrayList<>();
        List<Tree> owners = new ArrayList<>();
        List<Integer> whens = new ArrayList<>();
        int tooDeep = writePolicy(made, tokens, owners, whens);
        List<Integer> starts = new ArrayList<>();
        String text = join(tokens, starts);
        if (text.length() > 100) {
            return;
        }
        for (int i = 0; i < tokens.size(); i++) {
            if (owners.get(i) != null) {
                owners.get(i).place = starts.get(i);
            }
        }
        for (int token : whens) {
            made.places.add(starts.get(token));
        }
        made.tokens = tokens.size();
        if (tooDeep >= 0) {
            deep++;
            Due.fault(text, starts.get(tooDeep));
            return;
        }
        int i = next(6);
        Due.write(x, text);
        Due.is("policy " + text, made.tokens, () -> x.policy(i));
        policies[i] = made;
        comparePolicy(x, w, i, text);
        if (chance(20)) {
            compareFaults(text, starts);
        }
    }

    private void comparePolicy(PolicyForge x, Tree.World w, int i, String text) {
        int wrong = policies[i].wrong(w);
        checkedWrong += wrong >= 0 ? 1 : 0;
        checkedRight += wrong < 0 && !policies[i].trees.isEmpty() ? 1 : 0;
        Due.is("check of " + text, wrong, () -> x.check(i));
        for (int turn = 0; turn < 4; turn++) {
            int p = next(7);
            int action = next(3);
            int r = next(7);
            int verdict = policies[i].verdict(w, p, action, r);
            seen[verdict]++;
            Object[] want = {null, false, false, true, "java.lang.UnsupportedOperationException",
                "java.util.NoSuchElementException", "java.lang.ArithmeticException"};
            Due.is(text + " for " + p + " " + action + " " + r, want[verdict], () -> x.holds(i, p, action, r));
        }
    }

    private void compareAsk(PolicyForge x, Tree.World w) {
        int p = next(7);
        int action = next(3);
        int r = next(7);
        boolean permitted = false;
        boolean forbidden = false;
        int[] verdicts = new int[6];
        for (int i = 0; i < 6; i++) {
            verdicts[i] = policies[i] == null ? 0 : policies[i].verdict(w, p, action, r);
            permitted |= verdicts[i] == 3 && policies[i].permits;
            forbidden |= verdicts[i] == 3 && !policies[i].permits;
        }
        Due.is("ask", permitted && !forbidden, () -> x.ask(p, action, r));
        for (int i = 0; i < 6; i++) {
            int policy = i;
            Due.is("told", verdicts[i], () -> x.told(policy));
            policies[i] = null;
        }
    }

    /** What stands before a fault can go on; and each beginning of a policy can. */
    private void compareFaults(String text, List<Integer> starts) {
        int cut = starts.get(next(starts.size()));
        canGoOn(text.substring(0, cut));
        String broken = text.substring(0, cut) + " " + MORE[next(MORE.length)] + " " + text.substring(cut);
        if (broken.length() > 100) {
            return;
        }
        PolicyForge x = new PolicyForge();
        Due.write(x, broken);
        Object answer = Due.answer(() -> x.policy(0));
        int where = x.where();
        if (where == PolicyForge.NONE) {
            Due.is("a policy has tokens: " + broken, true, () -> answer instanceof Integer);
            return;
        }
        Due.is("the fault is not before what was put in: " + broken, true, () -> where > cut);
        canGoOn(broken.substring(0, where));
    }

    private void canGoOn(String beginning) {
        PolicyForge x = new PolicyForge();
        Due.write(x, beginning);
        Object answer = Due.answer(() -> x.policy(0));
        if (!(answer instanceof Integer)) {
            Due.is("where of " + beginning, beginning.length(), x::where);
        }
    }

    private String join(List<String> tokens, List<Integer> starts) {
        StringBuilder text = new StringBuilder(chance(10) ? " " : "");
        for (String token : tokens) {
            boolean close = text.length() > 0 && isWordy(text.charAt(text.length() - 1)) && isWordy(token.charAt(0));
            text.append(close || chance(5) ? " " : "");
            starts.add(text.length());
            text.append(token);
        }
        return text.toString();
    }

    private static boolean isWordy(char c) {
        return c >= 'a' && c <= 'z';
    }

    private int writePolicy(Written made, List<String> tokens, List<Tree> owners, List<Integer> whens) {
        made.permits = chance(60);
        put(tokens, owners, made.permits ? "permit" : "forbid", "(");
        writeScope(made, 0, tokens, owners);
        made.action = chance(70) ? -1 : next(3);
        put(tokens, owners, ",", made.action < 0 ? "_" : "" + made.action, ",");
        writeScope(made, 1, tokens, owners);
        put(tokens, owners, ")");
        int fault = -1;
        int conditions = next(100) < 10 ? 0 : 1 + next(3);
        for (int c = 0; c < conditions; c++) {
            boolean wanted = chance(70);
            made.wanted.add(wanted);
            whens.add(tokens.size());
            put(tokens, owners, wanted ? "when" : "unless", "{");
            Tree tree = tree(chance(95) ? 't' : 'n', 2 + next(3));
            made.trees.add(tree);
            int found = tree.write(tokens, owners, 0, 0);
            fault = fault >= 0 ? fault : found;
            put(tokens, owners, "}");
        }
        return fault;
    }

    private void writeScope(Written made, int which, List<String> tokens, List<Tree> owners) {
        String e = "@" + next(6);
        int form = chance(50) ? 0 : next(3);
        made.scope[which] = form == 0 ? "_" : form == 1 ? e : "in " + e;
        if (form == 2) {
            put(tokens, owners, "in");
        }
        put(tokens, owners, form == 0 ? "_" : e);
    }

    private static void put(List<String> tokens, List<Tree> owners, String... some) {
        for (String token : some) {
            tokens.add(token);
            owners.add(null);
        }
    }

    private static final String[] TRUTHS = {"&&", "||", "!", "==", "!=", "<", "<=", "in", "has", "&&", "has"};

    /** A tree that is mostly of a sort: t, n or e. */
    private Tree tree(char wanted, int size) {
        char sort = chance(96) ? wanted : "tne".charAt(next(3));
        String a = "" + "xyz".charAt(chance(75) ? "nte".indexOf(sort) : next(3));
        if (size <= 0 || chance(15)) {
            return leaf(sort);
        }
        if (sort == 'e' || chance(25)) {
            return new Tree("." + a, tree('e', chance(60) ? 0 : size - 1), null);
        }
        if (sort == 'n') {
            String op = new String[] {"+", "-", "*", "neg"}[next(4)];
            return op.equals("neg") ? new Tree("-", tree('n', size - 1), null)
                    : new Tree(op, tree('n', size - 1), tree('n', size - 1));
        }
        String op = TRUTHS[next(TRUTHS.length)];
        switch (op) {
            case "!":
                return chance(10) ? signs(1 + next(8)) : new Tree(op, tree('t', size - 1), null);
            case "has":
                return new Tree("has " + "xyz".charAt(next(3)), tree('e', chance(80) ? 0 : size - 1), null);
            case "in":
                return new Tree(op, tree('e', size - 2), tree('e', size - 2));
            case "==":
            case "!=":
                char of = "tne".charAt(next(3));
                return new Tree(op, tree(of, size - 1), tree(of, size - 1));
            case "<":
            case "<=":
                return new Tree(op, tree('n', size - 1), tree('n', size - 1));
            default:
                return new Tree(op, tree('t', size - 1), tree('t', size - 1));
        }
    }

    private Tree signs(int many) {
        Tree tree = leaf('t');
        for (int i = 0; i < many; i++) {
            tree = new Tree("!", tree, null);
        }
        return tree;
    }

    private Tree leaf(char sort) {
        if (sort == 't') {
            return new Tree(chance(60) ? "true" : "false", null, null);
        }
        if (sort == 'e') {
            return new Tree(chance(45) ? "p" : chance(80) ? "r" : "@" + next(6), null, null);
        }
        return new Tree(new String[] {"0", "1", "7", "007", "46341", "999999"}[next(6)], null, null);
    }
}
