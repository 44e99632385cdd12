import java.util.List;

/**
 * Promises 3, 4, 10 to 15 over texts that are made by chance (the same ones in each run): the
 * answers are compared with those of Tree, which the texts are written from.
 */
public final class RandomTest {
    private static final int WORLDS = 1500;
    private static final int TEXTS_OF_EACH = 12;
    private static final String[] MORE = {
        "permit", "when", "unless", "in", "has", "p", "x", "(", ")", "{", "}", ",", ".", "_", "+", "-", "*", "!",
        "==", "<", "&&", "||", "7", "10", "@3", "@16", "1234567", "true", "$", "=", "pp",
    };

    private final Chance chance = new Chance(20261115L);
    private final Written[] policies = new Written[6];
    private final int[] seen = new int[7];
    private int checkedWrong = 0;
    private int checkedRight = 0;
    private int deep = 0;

    public static void main(String[] args) {
        RandomTest test = new RandomTest();
        for (int i = 0; i < WORLDS; i++) {
            test.world();
        }
        System.out.println("RandomTest saw verdicts " + java.util.Arrays.toString(test.seen) + ", wrong "
                + test.checkedWrong + ", right " + test.checkedRight + ", too deep " + test.deep);
        Due.is("all verdicts and checks were seen", true, test::sawAll);
        Due.end("RandomTest");
    }

    private Object sawAll() {
        boolean all = checkedWrong > 100 && checkedRight > 100 && deep > 10;
        for (int verdict = 1; verdict < seen.length; verdict++) {
            all &= seen[verdict] > 100;
        }
        return all;
    }

    private int next(int bound) {
        return chance.next(bound);
    }

    private void world() {
        PolicyForge x = new PolicyForge();
        Tree.World w = new Tree.World();
        java.util.Arrays.fill(w.kind, -1);
        for (int turn = 0; turn < 8; turn++) {
            makeEntity(x, w, next(6));
        }
        for (int turn = 0; turn < 10; turn++) {
            giveParent(x, w, next(6), next(6));
            giveAttribute(x, w, next(6), next(3));
        }
        for (int kind = 0; kind < 3; kind++) {
            for (int a = 0; a < 3; a++) {
                declare(x, w, kind, a);
            }
        }
        for (int e = 0; e < 6; e++) {
            compareEntity(x, w, e);
        }
        for (int turn = 0; turn < TEXTS_OF_EACH; turn++) {
            compareText(x, w);
        }
        compareAsk(x, w);
    }

    private void makeEntity(PolicyForge x, Tree.World w, int e) {
        int kind = next(3);
        boolean isNew = w.kind[e] < 0;
        Due.is("entity", isNew, () -> x.entity(e, kind));
        w.kind[e] = kind;
        w.attribute[e] = new Object[3];
        w.parent[e] = new boolean[16];
    }

    private void giveParent(PolicyForge x, Tree.World w, int e, int f) {
        Object want = !w.parent[e][f];
        if (w.kind[e] < 0 || w.kind[f] < 0) {
            want = "java.util.NoSuchElementException";
        } else if (w.in("@" + f, "@" + e)) {
            want = "java.lang.IllegalStateException";
        } else {
            w.parent[e][f] = true;
        }
        Due.is("parent", want, () -> x.parent(e, f));
    }

    private void giveAttribute(PolicyForge x, Tree.World w, int e, int a) {
        int sort = next(4);
        int v = sort == 3 ? next(6) : chance.in100(20) ? Integer.MIN_VALUE : next(4) - 1;
        Object old = w.attribute[e][a];
        Object want = old == null ? 0 : old instanceof Integer ? 1 : old instanceof Boolean ? 2 : 3;
        Object[] values = {null, v, v != 0, "@" + v};
        if (w.kind[e] < 0) {
            want = "java.util.NoSuchElementException";
        } else {
            w.attribute[e][a] = values[sort];
        }
        Due.is("set", want, () -> x.set(e, a, sort, v));
    }

    private void declare(PolicyForge x, Tree.World w, int kind, int a) {
        // mostly alike over kinds, so that some texts are right
        int sort = chance.in100(80) ? a + 1 : next(4);
        int of = chance.in100(80) ? 1 : next(3);
        boolean sure = chance.in100(60);
        x.declare(kind, a, sort, of, sure);
        w.declared[kind][a] = new String[] {null, "n", "t", "e" + of}[sort];
        w.sure[kind][a] = sure;
    }

    private void compareEntity(PolicyForge x, Tree.World w, int e) {
        Due.is("conforms", w.conforms(e), () -> x.conforms(e));
        for (int f = 0; f < 6; f++) {
            int g = f;
            Due.is("isIn", w.in("@" + e, "@" + f), () -> x.isIn(e, g));
        }
    }

    private void compareText(PolicyForge x, Tree.World w) {
        Writer writer = new Writer(chance);
        if (writer.text.length() > 100) {
            return;
        }
        if (writer.tooDeep() != PolicyForge.NONE) {
            deep++;
            Due.fault(writer.text, writer.tooDeep());
            return;
        }
        int i = next(6);
        Due.write(x, writer.text);
        Due.is("policy " + writer.text, writer.made.tokens, () -> x.policy(i));
        policies[i] = writer.made;
        comparePolicy(x, w, i, writer.text);
        if (chance.in100(20)) {
            compareFaults(writer.text, writer.starts);
        }
    }

    private void comparePolicy(PolicyForge x, Tree.World w, int i, String text) {
        int wrong = policies[i].wrong(w);
        checkedWrong += wrong >= 0 ? 1 : 0;
        checkedRight += wrong < 0 && !policies[i].trees.isEmpty() ? 1 : 0;
        Due.is("check of " + text, wrong, () -> x.check(i));
        for (int turn = 0; turn < 4; turn++) {
            int p = next(7);
            int action = next(3);
            int r = next(7);
            int verdict = policies[i].verdict(w, p, action, r);
            seen[verdict]++;
            Object want = Written.holds(verdict);
            Due.is(text + " for " + p + " " + action + " " + r, want, () -> x.holds(i, p, action, r));
        }
    }

    private void compareAsk(PolicyForge x, Tree.World w) {
        int p = next(7);
        int action = next(3);
        int r = next(7);
        boolean permitted = false;
        boolean forbidden = false;
        int[] verdicts = new int[6];
        for (int i = 0; i < 6; i++) {
            verdicts[i] = policies[i] == null ? 0 : policies[i].verdict(w, p, action, r);
            permitted |= verdicts[i] == 3 && policies[i].permits;
            forbidden |= verdicts[i] == 3 && !policies[i].permits;
        }
        Due.is("ask", permitted && !forbidden, () -> x.ask(p, action, r));
        for (int i = 0; i < 6; i++) {
            int policy = i;
            Due.is("told", verdicts[i], () -> x.told(policy));
            policies[i] = null;
        }
    }

    /** What stands before a fault can go on; and each beginning of a policy can. */
    private void compareFaults(String text, List<Integer> starts) {
        int cut = starts.get(next(starts.size()));
        canGoOn(text.substring(0, cut));
        String broken = text.substring(0, cut) + " " + MORE[next(MORE.length)] + " " + text.substring(cut);
        if (broken.length() > 100) {
            return;
        }
        PolicyForge x = new PolicyForge();
        Due.write(x, broken);
        Object answer = Due.answer(() -> x.policy(0));
        int where = x.where();
        if (where == PolicyForge.NONE) {
            Due.is("a policy has tokens: " + broken, true, () -> answer instanceof Integer);
            return;
        }
        Due.is("the fault is not before what was put in: " + broken, true, () -> where > cut);
        canGoOn(broken.substring(0, where));
    }

    private void canGoOn(String beginning) {
        PolicyForge x = new PolicyForge();
        Due.write(x, beginning);
        Object answer = Due.answer(() -> x.policy(0));
        if (!(answer instanceof Integer)) {
            Due.is("where of " + beginning, beginning.length(), x::where);
        }
    }
}
