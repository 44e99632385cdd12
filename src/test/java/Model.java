import java.util.Arrays;

/** The whole object once more, plainly: each call tells the answer that is due, or the exception's name. */
final class Model {
    static final String REFUSED = "java.lang.IllegalArgumentException";
    static final String BAD_STATE = "java.lang.IllegalStateException";
    static final String NO_SUCH = "java.util.NoSuchElementException";
    static final String NOTHING = "nothing";

    private String text = "";
    private int where = PolicyForge.NONE;
    private final Written[] policies = new Written[6];
    private final int[] told = new int[6];
    private final Tree.World w = new Tree.World();

    Model() {
        Arrays.fill(w.kind, -1);
    }

    private static boolean isBad(int n, int last) {
        return n < 0 || n > last;
    }

    Object text(long word) {
        StringBuilder more = new StringBuilder();
        for (int i = 7; i >= 0; i--) {
            char c = (char) (word >> 8 * i & 255);
            if (c != 0) {
                more.append(c);
            }
        }
        if (!more.toString().matches("[ -~]*")) {
            return REFUSED;
        }
        if (text.length() + more.length() > 100) {
            return BAD_STATE;
        }
        text += more;
        return text.length();
    }

    Object policy(int i) {
        where = PolicyForge.NONE;
        if (isBad(i, 5)) {
            return REFUSED;
        }
        String all = text;
        text = "";
        where = Grammar.fault(all);
        if (where != PolicyForge.NONE) {
            return REFUSED;
        }
        policies[i] = Splitter.policy(all);
        return policies[i].tokens;
    }

    Object where() {
        return where;
    }

    Object drop(int i) {
        if (isBad(i, 5)) {
            return REFUSED;
        }
        boolean was = policies[i] != null;
        policies[i] = null;
        return was;
    }

    Object entity(int e, int kind) {
        if (isBad(e, 15) || isBad(kind, 2)) {
            return REFUSED;
        }
        boolean was = w.kind[e] >= 0;
        w.kind[e] = kind;
        Arrays.fill(w.parent[e], false);
        Arrays.fill(w.attribute[e], null);
        return !was;
    }

    Object parent(int e, int f) {
        if (isBad(e, 15) || isBad(f, 15)) {
            return REFUSED;
        }
        if (w.kind[e] < 0 || w.kind[f] < 0) {
            return NO_SUCH;
        }
        if (w.in("@" + f, "@" + e)) {
            return BAD_STATE;
        }
        boolean was = w.parent[e][f];
        w.parent[e][f] = true;
        return !was;
    }

    Object set(int e, int a, int sort, int v) {
        if (isBad(e, 15) || isBad(a, 2) || isBad(sort, 3) || sort == 3 && isBad(v, 15)) {
            return REFUSED;
        }
        if (w.kind[e] < 0) {
            return NO_SUCH;
        }
        Object old = w.attribute[e][a];
        Object[] values = {null, v, v != 0, "@" + v};
        w.attribute[e][a] = values[sort];
        return old == null ? 0 : old instanceof Integer ? 1 : old instanceof Boolean ? 2 : 3;
    }

    Object declare(int kind, int a, int sort, int of, boolean sure) {
        if (isBad(kind, 2) || isBad(a, 2) || isBad(sort, 3) || sort == 3 && isBad(of, 2)) {
            return REFUSED;
        }
        w.declared[kind][a] = new String[] {null, "n", "t", "e" + of}[sort];
        w.sure[kind][a] = sure;
        return NOTHING;
    }

    Object conforms(int e) {
        return isBad(e, 15) ? REFUSED : (Object) w.conforms(e);
    }

    Object check(int i) {
        if (isBad(i, 5)) {
            return REFUSED;
        }
        return policies[i] == null ? NO_SUCH : (Object) policies[i].wrong(w);
    }

    private static boolean isBadQuestion(int p, int action, int r) {
        return isBad(p, 15) || isBad(action, 9) || isBad(r, 15);
    }

    Object holds(int i, int p, int action, int r) {
        if (isBad(i, 5) || isBadQuestion(p, action, r)) {
            return REFUSED;
        }
        return policies[i] == null ? BAD_STATE : Written.holds(policies[i].verdict(w, p, action, r));
    }

    Object ask(int p, int action, int r) {
        if (isBadQuestion(p, action, r)) {
            return REFUSED;
        }
        boolean permitted = false;
        boolean forbidden = false;
        for (int i = 0; i < 6; i++) {
            told[i] = policies[i] == null ? 0 : policies[i].verdict(w, p, action, r);
            permitted |= told[i] == 3 && policies[i].permits;
            forbidden |= told[i] == 3 && !policies[i].permits;
        }
        return permitted && !forbidden;
    }

    Object told(int i) {
        return isBad(i, 5) ? PolicyForge.REFUSED : told[i];
    }

    Object isIn(int e, int f) {
        return isBad(e, 15) || isBad(f, 15) ? REFUSED : (Object) w.in("@" + e, "@" + f);
    }

    Object count(int what) {
        if (what >= 10 && what <= 15) {
            return policies[what - 10] == null ? PolicyForge.NONE : policies[what - 10].tokens;
        }
        Object[] counts = {text.length(), (int) Arrays.stream(policies).filter(p -> p != null).count(),
            (int) Arrays.stream(w.kind).filter(k -> k >= 0).count(),
            (int) Arrays.stream(told).filter(t -> t >= 2).count()};
        return isBad(what, 3) ? PolicyForge.REFUSED : counts[what];
    }
}
