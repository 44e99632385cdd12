import java.util.ArrayList;
import java.util.LinkedHashSet;
import java.util.List;
import java.util.Set;
import java.util.regex.Matcher;
import java.util.regex.Pattern;

/**
 * The document's grammar as rules, and a recogniser in Earley's way that knows none of them by
 * heart: it keeps all that a POLICY may go on with, so that the first token with which none goes on
 * is found by the document's own words.
 */
final class Grammar {
    /** Of a name with # there is one for each depth from 0 to 6, ^ being one deeper: 7 has no rule. */
    private static final String[] RULES = {
        "POLICY = HEAD", "POLICY = POLICY when { EXPR0 }", "POLICY = POLICY unless { EXPR0 }",
        "HEAD = permit ( SCOPE , ACTION , SCOPE )", "HEAD = forbid ( SCOPE , ACTION , SCOPE )",
        "SCOPE = _", "SCOPE = ENTITY", "SCOPE = in ENTITY",
        "ACTION = _", "ACTION = DIGIT",
        "EXPR# = AND#", "EXPR# = EXPR# || AND#",
        "AND# = REL#", "AND# = AND# && REL#",
        "REL# = SUM#", "REL# = SUM# == SUM#", "REL# = SUM# != SUM#", "REL# = SUM# < SUM#",
        "REL# = SUM# <= SUM#", "REL# = SUM# in SUM#", "REL# = SUM# has ATTR",
        "SUM# = PRODUCT#", "SUM# = SUM# + PRODUCT#", "SUM# = SUM# - PRODUCT#",
        "PRODUCT# = SIGNED#", "PRODUCT# = PRODUCT# * SIGNED#",
        "SIGNED# = ! SIGNED^", "SIGNED# = - SIGNED^", "SIGNED# = PART#",
        "PART# = ATOM#", "PART# = PART# . ATTR",
        "ATOM# = NUMERAL", "ATOM# = true", "ATOM# = false", "ATOM# = ENTITY", "ATOM# = p", "ATOM# = r",
        "ATOM# = ( EXPR^ )",
        "ATTR = x", "ATTR = y", "ATTR = z",
    };
    private static final List<String[]> ALL = expanded();
    private static final List<String> WORDS = List.of("permit", "forbid", "when", "unless", "in", "has", "true",
            "false", "p", "r", "x", "y", "z");
    private static final Pattern TOKEN = Pattern.compile(
            "([0-9]+)|([a-z]+)|(@[0-9]*)|(==|!=|<=|&&|\\|\\||[(){},._+*!<-])");

    private Grammar() {
    }

    /** A token with its place, and the names in the rules that it may stand for; none if it is none. */
    static final class Token {
        final String text;
        final int place;
        final List<String> names;

        Token(String text, int place, List<String> names) {
            this.text = text;
            this.place = place;
            this.names = names;
        }
    }

    /** A rule, how much of it was seen, and from which token on. */
    private record Item(String[] rule, int seen, int from) {
        /** What is due next, or nothing behind the end. */
        String next() {
            return seen < rule.length ? rule[seen] : "";
        }

        Item step() {
            return new Item(rule, seen + 1, from);
        }
    }

    private static List<String[]> expanded() {
        List<String[]> all = new ArrayList<>();
        for (String rule : RULES) {
            for (int deep = 0; deep < (rule.contains("#") ? 7 : 1); deep++) {
                String one = rule.replace("#", "" + deep).replace("^", "" + (deep + 1));
                // the = behind the name is left out, so that the first place is the name's
                all.add(one.replaceFirst(" =", "").split(" "));
            }
        }
        return all;
    }

    /** The tokens of a text, up to the first one that is none. */
    static List<Token> tokens(String text) {
        List<Token> all = new ArrayList<>();
        Matcher matcher = TOKEN.matcher(text);
        int at = 0;
        while (at < text.length()) {
            if (text.charAt(at) == ' ') {
                at++;
                continue;
            }
            String found = matcher.find(at) && matcher.start() == at ? matcher.group() : "";
            all.add(new Token(found, at, names(found)));
            if (names(found).isEmpty()) {
                break;
            }
            at += found.length();
        }
        return all;
    }

    private static List<String> names(String token) {
        if (token.matches("0*[0-9]") && token.length() <= 6) {
            return List.of("NUMERAL", "DIGIT");
        }
        if (token.matches("[0-9]{1,6}")) {
            return List.of("NUMERAL");
        }
        if (token.startsWith("@")) {
            return token.matches("@([0-9]|0[0-9]|1[0-5])") ? List.of("ENTITY") : List.of();
        }
        if (token.matches("[0-9a-z].*")) {
            return WORDS.contains(token) ? List.of(token) : List.of();
        }
        return token.isEmpty() ? List.of() : List.of(token);
    }

    /** What where says of a text. */
    static int fault(String text) {
        List<Token> tokens = tokens(text);
        List<Set<Item>> open = new ArrayList<>();
        Set<Item> now = new LinkedHashSet<>();
        addRules(now, "POLICY", 0);
        for (int i = 0; i < tokens.size(); i++) {
            close(now, open, i);
            Set<Item> next = new LinkedHashSet<>();
            for (Item item : now) {
                if (tokens.get(i).names.contains(item.next())) {
                    next.add(item.step());
                }
            }
            if (next.isEmpty()) {
                return tokens.get(i).place;
            }
            now = next;
        }
        close(now, open, tokens.size());
        return isPolicy(now) ? PolicyForge.NONE : text.length();
    }

    private static boolean isPolicy(Set<Item> now) {
        for (Item item : now) {
            if (item.rule[0].equals("POLICY") && item.next().isEmpty() && item.from == 0) {
                return true;
            }
        }
        return false;
    }

    private static void addRules(Set<Item> to, String name, int from) {
        for (String[] rule : ALL) {
            if (rule[0].equals(name)) {
                to.add(new Item(rule, 1, from));
            }
        }
    }

    /** Adds what follows from the items: rules of what is due next, and steps over what has ended. */
    private static void close(Set<Item> now, List<Set<Item>> open, int at) {
        open.add(now);
        List<Item> todo = new ArrayList<>(now);
        for (int i = 0; i < todo.size(); i++) {
            Item item = todo.get(i);
            Set<Item> more = new LinkedHashSet<>();
            if (!item.next().isEmpty()) {
                addRules(more, item.next(), at);
            } else {
                for (Item waiting : open.get(item.from)) {
                    if (waiting.next().equals(item.rule[0])) {
                        more.add(waiting.step());
                    }
                }
            }
            for (Item one : more) {
                if (now.add(one)) {
                    todo.add(one);
                }
            }
        }
    }
}
