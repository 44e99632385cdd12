import java.util.ArrayList;
import java.util.List;

/** Makes a policy by chance, as trees first, and writes its text behind. */
final class Writer {
    private static final String[] TRUTHS = {"&&", "||", "!", "==", "!=", "<", "<=", "in", "has", "&&", "has"};

    private final Chance chance;
    private final List<String> tokens = new ArrayList<>();
    private final List<Tree> owners = new ArrayList<>();
    private final List<Integer> whens = new ArrayList<>();
    private int deepToken = -1;

    final Written made = new Written();
    final List<Integer> starts = new ArrayList<>();
    final String text;

    Writer(Chance chance) {
        this.chance = chance;
        writePolicy();
        text = joined();
        for (int i = 0; i < owners.size(); i++) {
            if (owners.get(i) != null) {
                owners.get(i).place = starts.get(i);
            }
        }
        for (int token : whens) {
            made.places.add(starts.get(token));
        }
        made.tokens = tokens.size();
    }

    /** The place of the first token that is 7 deep, or NONE. */
    int tooDeep() {
        return deepToken < 0 ? PolicyForge.NONE : starts.get(deepToken);
    }

    private String joined() {
        StringBuilder all = new StringBuilder(chance.in100(10) ? " " : "");
        for (String token : tokens) {
            boolean close = all.length() > 0 && isLetter(all.charAt(all.length() - 1)) && isLetter(token.charAt(0));
            all.append(close || chance.in100(5) ? " " : "");
            starts.add(all.length());
            all.append(token);
        }
        return all.toString();
    }

    private static boolean isLetter(char c) {
        return c >= 'a' && c <= 'z';
    }

    private void writePolicy() {
        made.permits = chance.in100(60);
        put(made.permits ? "permit" : "forbid", "(");
        writeScope(0);
        made.action = chance.in100(70) ? -1 : chance.next(3);
        put(",", made.action < 0 ? "_" : "" + made.action, ",");
        writeScope(1);
        put(")");
        int conditions = chance.in100(10) ? 0 : 1 + chance.next(3);
        for (int c = 0; c < conditions; c++) {
            writeCondition();
        }
    }

    private void writeScope(int which) {
        String e = "@" + chance.next(6);
        int form = chance.in100(50) ? 0 : chance.next(3);
        made.scope[which] = form == 0 ? "_" : form == 1 ? e : "in " + e;
        if (form == 2) {
            put("in");
        }
        put(form == 0 ? "_" : e);
    }

    private void writeCondition() {
        boolean wanted = chance.in100(70);
        made.wanted.add(wanted);
        whens.add(tokens.size());
        put(wanted ? "when" : "unless", "{");
        Tree tree = tree(chance.in100(95) ? 't' : 'n', 2 + chance.next(3));
        made.trees.add(tree);
        int found = tree.write(tokens, owners, 0, 0);
        deepToken = deepToken >= 0 ? deepToken : found;
        put("}");
    }

    private void put(String... some) {
        for (String token : some) {
            tokens.add(token);
            owners.add(null);
        }
    }

    /** A tree that is mostly of a sort: t, n or e. */
    private Tree tree(char wanted, int size) {
        char sort = chance.in100(96) ? wanted : "tne".charAt(chance.next(3));
        String a = "" + "xyz".charAt(chance.in100(75) ? "nte".indexOf(sort) : chance.next(3));
        if (size <= 0 || chance.in100(15)) {
            return leaf(sort);
        }
        if (sort == 'e' || chance.in100(25)) {
            return new Tree("." + a, tree('e', chance.in100(60) ? 0 : size - 1), null);
        }
        return sort == 'n' ? numberTree(size - 1) : truthTree(size - 1);
    }

    private Tree numberTree(int size) {
        String op = chance.one("+", "-", "*", "");
        return op.isEmpty() ? new Tree("-", tree('n', size), null) : new Tree(op, tree('n', size), tree('n', size));
    }

    private Tree truthTree(int size) {
        String op = chance.one(TRUTHS);
        switch (op) {
            case "!":
                return chance.in100(10) ? signs(1 + chance.next(8)) : new Tree(op, tree('t', size), null);
            case "has":
                return new Tree("has " + "xyz".charAt(chance.next(3)), tree('e', chance.in100(80) ? 0 : size), null);
            case "in":
                return new Tree(op, tree('e', size - 1), tree('e', size - 1));
            case "==":
            case "!=":
                char of = "tne".charAt(chance.next(3));
                return new Tree(op, tree(of, size), tree(of, size));
            case "<":
            case "<=":
                return new Tree(op, tree('n', size), tree('n', size));
            default:
                return new Tree(op, tree('t', size), tree('t', size));
        }
    }

    private Tree signs(int many) {
        Tree tree = leaf('t');
        for (int i = 0; i < many; i++) {
            tree = new Tree("!", tree, null);
        }
        return tree;
    }

    private Tree leaf(char sort) {
        if (sort == 't') {
            return new Tree(chance.in100(60) ? "true" : "false", null, null);
        }
        if (sort == 'e') {
            return new Tree(chance.in100(45) ? "p" : chance.in100(80) ? "r" : "@" + chance.next(6), null, null);
        }
        return new Tree(chance.one("0", "1", "7", "007", "46341", "999999"), null, null);
    }
}
