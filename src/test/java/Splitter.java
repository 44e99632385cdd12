import java.util.List;

/**
 * Makes trees of a text that is a POLICY: an EXPR is split at its outermost operator, the last one
 * of the loosest, which is another way than the program's, and no good for texts that are none.
 */
final class Splitter {
    /** From the loosest on; what stands in one of them groups to the left. */
    private static final List<List<String>> LEVELS = List.of(List.of("||"), List.of("&&"),
            List.of("==", "!=", "<", "<=", "in", "has"), List.of("+", "-"), List.of("*"));
    private static final List<String> OPERATORS = List.of("||", "&&", "==", "!=", "<", "<=", "in", "+", "-", "*",
            "!", "(", "{");

    private final List<Grammar.Token> tokens;

    private Splitter(List<Grammar.Token> tokens) {
        this.tokens = tokens;
    }

    static Written policy(String text) {
        return new Splitter(Grammar.tokens(text)).policy();
    }

    private String at(int i) {
        return tokens.get(i).text;
    }

    private Written policy() {
        Written made = new Written();
        made.tokens = tokens.size();
        made.permits = at(0).equals("permit");
        int comma = indexOf(",", 0);
        int second = indexOf(",", comma + 1);
        int close = indexOf(")", second);
        made.scope[0] = scope(comma);
        made.action = at(comma + 1).equals("_") ? -1 : Integer.parseInt(at(comma + 1));
        made.scope[1] = scope(close);
        for (int i = close + 1; i < tokens.size(); i = indexOf("}", i) + 1) {
            made.wanted.add(at(i).equals("when"));
            made.places.add(tokens.get(i).place);
            made.trees.add(tree(i + 2, indexOf("}", i)));
        }
        return made;
    }

    private int indexOf(String token, int from) {
        int i = from;
        while (!at(i).equals(token)) {
            i++;
        }
        return i;
    }

    private String scope(int end) {
        String last = at(end - 1);
        return last.equals("_") ? last : (at(end - 2).equals("in") ? "in " : "") + "@" + Tree.number(last);
    }

    private Tree tree(int from, int to) {
        for (List<String> level : LEVELS) {
            int split = lastOf(level, from, to);
            if (split >= 0) {
                return at(split).equals("has") ? placed(split, "has " + at(to - 1), tree(from, split), null)
                        : placed(split, at(split), tree(from, split), tree(split + 1, to));
            }
        }
        if (at(from).equals("!") || at(from).equals("-")) {
            return placed(from, at(from), tree(from + 1, to), null);
        }
        if (to - from > 2 && at(to - 2).equals(".")) {
            return placed(to - 2, "." + at(to - 1), tree(from, to - 2), null);
        }
        return at(from).equals("(") ? tree(from + 1, to - 1) : placed(from, at(from), null, null);
    }

    private Tree placed(int token, String op, Tree left, Tree right) {
        Tree tree = new Tree(op, left, right);
        tree.place = tokens.get(token).place;
        return tree;
    }

    /** The last of these operators outside of brackets that has a part on its left, or -1. */
    private int lastOf(List<String> level, int from, int to) {
        int open = 0;
        for (int i = to - 1; i > from; i--) {
            open += at(i).equals(")") ? 1 : at(i).equals("(") ? -1 : 0;
            if (open == 0 && level.contains(at(i)) && !OPERATORS.contains(at(i - 1))) {
                return i;
            }
        }
        return -1;
    }
}
