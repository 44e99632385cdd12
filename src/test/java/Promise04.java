/** The boundary cases of promise 4: where. */
final class Promise04 {
    private static final String HEAD = "permit(_,_,_)";
    private static final String WHEN = "permit(_,_,_)when{";
    private static final String[] TOKENS = {
        "permit", "forbid", "when", "unless", "in", "has", "true", "false", "p", "r", "x", "y", "z", "1", "@1",
        "(", ")", "{", "}", ",", ".", "_", "+", "-", "*", "!", "==", "!=", "<", "<=", "&&", "||",
    };
    private static final String PART = "1 true false @1 p r ( ! -";
    private static final String ON = ". * + - == != < <= in has && ||";
    private static final String BEHIND_RELATION = ". * + - && ||";

    private Promise04() {
    }

    static void run() {
        latest();
        tokensOfHeads();
        tokensOfExpressions();
        characters();
        notTheirFirst();
        numerals();
        ends();
        none();
    }

    private static void latest() {
        Due.sentence(4, "Where the latest policy found THE TEXT to be no POLICY:");
        PolicyForge x = new PolicyForge();
        for (int n = 0; n <= 12; n++) {
            int cut = n;
            int place = cut < "permit".length() ? 0 : cut;
            Due.write(x, HEAD.substring(0, cut));
            Due.refused("policy of " + cut + " characters", () -> x.policy(cut % 6));
            Due.is("where", place, x::where);
            Due.is("where, asked again", place, x::where);
        }
        Due.write(x, "permit(_,_,_)when{$");
        Due.is("a pending text does not matter", 12, x::where);
        x.drop(0);
        x.ask(0, 0, 0);
        Due.is("nor do other calls", 12, x::where);
        Due.refused("the next one", () -> x.policy(0));
        Due.is("where of the next one", 18, x::where);
    }

    /** Which of all tokens go on behind a text, and that the others are a fault at their place. */
    private static void goesOn(String text, String allowed) {
        String some = " " + allowed + " ";
        for (String token : TOKENS) {
            if (some.contains(" " + token + " ")) {
                PolicyForge x = new PolicyForge();
                Due.write(x, text + " " + token);
                boolean full = Due.answer(() -> x.policy(0)) instanceof Integer;
                int end = full ? PolicyForge.NONE : text.length() + 1 + token.length();
                Due.is("where of " + text + " " + token, end, x::where);
            } else {
                Due.fault(text + " ^" + token);
                Due.fault(text + " ^" + token + " $");
            }
        }
    }

    private static void tokensOfHeads() {
        Due.sentence(4, "the place of the first TOKEN with which none goes on so,");
        goesOn("", "permit forbid");
        goesOn("permit", "(");
        goesOn("forbid", "(");
        goesOn("permit(", "_ @1 in");
        goesOn("permit(in", "@1");
        goesOn("permit(_", ",");
        goesOn("permit(@1", ",");
        goesOn("permit(in @1", ",");
        goesOn("permit(_,", "_ 1");
        goesOn("permit(_,_", ",");
        goesOn("permit(_,9", ",");
        goesOn("permit(_,_,", "_ @1 in");
        goesOn("permit(_,_,in", "@1");
        goesOn("permit(_,_,_", ")");
        goesOn("permit(_,_,@1", ")");
        goesOn("permit(_,_,in @1", ")");
        goesOn(HEAD, "when unless");
        goesOn(HEAD + "when", "{");
        goesOn(HEAD + "unless", "{");
        goesOn(WHEN, PART);
        goesOn(WHEN + "true}", "when unless");
        goesOn(HEAD + "unless{true}", "when unless");
    }

    private static void tokensOfExpressions() {
        Due.sentence(4, "the place of the first TOKEN with which none goes on so,");
        for (String part : new String[] {"1", "true", "@1", "p", "r.x", "(1)", "!1", "-r", "1+1", "1-1*1"}) {
            goesOn(WHEN + part, ON + " }");
            goesOn(WHEN + "(" + part, ON + " )");
            goesOn(WHEN + "1&&" + part, ON + " }");
            goesOn(WHEN + "p has x||" + part, ON + " }");
            goesOn(WHEN + "1<" + part, BEHIND_RELATION + " }");
            goesOn(WHEN + "(p in " + part, BEHIND_RELATION + " )");
        }
        for (String sign : new String[] {"!", "-", "(", "1+", "1-", "1*", "1==", "1!=", "1<", "1<=", "1 in", "1&&", "1||"}) {
            goesOn(WHEN + sign, PART);
            goesOn(WHEN + "p has x&&!(" + sign, PART);
        }
        goesOn(WHEN + "p.", "x y z");
        goesOn(WHEN + "p has", "x y z");
        goesOn(WHEN + "p has x", "&& || }");
        goesOn(WHEN + "(p has x", "&& || )");
        goesOn(WHEN + "((((((", PART);
        goesOn(WHEN + "(((((((", "");
        goesOn(WHEN + "!!!!!!!", "");
        goesOn(WHEN + "------", PART);
    }

    private static void characters() {
        Due.sentence(4, "or of the first character that belongs to none");
        String used = "(){},._+-*!<abcdefghijklmnopqrstuvwxyz0123456789@ ";
        for (char c = 32; c <= 126; c++) {
            if (used.indexOf(c) < 0) {
                Due.fault("" + c, 0);
                Due.fault("permit(_" + c + ",_,_)", 8);
                Due.fault(HEAD + c, 13);
                Due.fault(WHEN + "1" + c + "1}", 19);
                Due.fault(WHEN + "true}  " + c, 25);
                Due.fault(" ".repeat(99) + c, 99);
            }
        }
        Due.sentence(4, "if that is before it;");
        Due.fault("permit ^permit $");
        Due.fault("permit ^$ permit");
        Due.fault("^_ $");
        Due.fault("^$ _");
        Due.fault(WHEN + "1 ^1 # 1}");
        Due.fault(WHEN + "1 ^# 1 1}");
        Due.fault("permit(^p,@16,1234567)");
        Due.fault("permit(^@16,p,_)");
        Due.fault(HEAD + "^) whem");
        Due.fault(HEAD + "^whem )");
    }

    private static void notTheirFirst() {
        Due.sentence(4, "(words, ENTITIES and NUMERALS that are none: their first character;");
        Due.fault("^permitted(_,_,_)");
        Due.fault("  ^permitforbid");
        Due.fault("permit(_,_,_) ^whenever{1}");
        Due.fault(WHEN + "true&&^trues}");
        Due.fault(WHEN + "p.^xyz}");
        Due.fault(WHEN + "^abcdefghijklmnopqrstuvwxyz}");
        Due.fault("^" + "z".repeat(100));
        Due.fault("permit(^@16,_,_)");
        Due.fault("permit(_,_,in ^@160)");
        Due.fault(WHEN + "p in  ^@000}");
        Due.fault(WHEN + "p in  ^@}");
        Due.fault(WHEN + "p in  ^@");
        Due.fault("^@" + "0".repeat(99));
        Due.fault("^" + "0".repeat(100));
        Due.fault(WHEN + "1+^1234567+1}");
        Due.fault(WHEN + "1+^123456789");
    }

    private static void numerals() {
        Due.sentence(4, "a NUMERAL of seven digits or above 9 for ACTION, too),");
        Due.fault(WHEN + "^0000001==1}");
        Due.fault(WHEN + "000001==^0000001}");
        Due.fault("permit(_,^0000009,_)");
        Due.fault("permit(_,^0000000,_)");
        Due.fault("permit(_,^10,_)");
        Due.fault("permit(_,  ^000010  ,_)");
        Due.fault("permit(_,^100000,_)");
        Due.fault("permit(_,^10");
        Due.fault("permit(_,^10 $");
        Due.tokens(8, "permit(_,9,_)");
        Due.tokens(8, "permit(_,000009,_)");
        Due.tokens(12, WHEN + "10}");
    }

    private static void ends() {
        Due.sentence(4, "how many characters there were, if the end is missing.");
        String[] tokens = ("forbid ( in @15 , 9 , in @0 ) when { ! ( p . x + 1 <= - 2 ) && r has z }"
                + " unless { true }").split(" ");
        String text = "";
        for (int n = 0; n < tokens.length; n++) {
            text = text + tokens[n] + " ";
            if (n == 9 || tokens[n].equals("}")) {
                Due.tokens(n + 1, text);
            } else {
                Due.fault(text.trim(), text.length() - 1);
                Due.fault(text, text.length());
                Due.fault("  " + text + "   ", text.length() + 5);
            }
        }
        Due.fault("", 0);
        Due.fault(" ", 1);
        Due.fault(" ".repeat(100), 100);
        Due.fault(WHEN + "1" + "+1".repeat(40) + "+", 100);
        Due.fault(WHEN + "1" + " ".repeat(81), 100);
        Due.fault(HEAD + "when{1}".repeat(11) + "when{p." + "   ", 100);
    }

    private static void none() {
        Due.sentence(4, "NONE if it was one, i was not as said, or there was none.");
        PolicyForge x = new PolicyForge();
        Due.is("there was none", PolicyForge.NONE, x::where);
        Due.write(x, "permit(");
        Due.is("there still was none", PolicyForge.NONE, x::where);
        for (int n : new int[] {6, -1, Integer.MIN_VALUE, Integer.MAX_VALUE}) {
            Due.refused("no policy " + n, () -> x.policy(n));
            Due.is("where of " + n, PolicyForge.NONE, x::where);
        }
        Due.refused("no policy", () -> x.policy(0));
        Due.is("where it is none", 7, x::where);
        Due.refused("i is not as said behind it", () -> x.policy(6));
        Due.is("where behind it", PolicyForge.NONE, x::where);
        Due.refused("no policy again", () -> x.policy(0));
        Due.is("where of an empty one", 0, x::where);
        Due.write(x, HEAD);
        Due.is("one", 8, () -> x.policy(0));
        Due.is("where of one", PolicyForge.NONE, x::where);
        Due.is("NONE", -2, () -> PolicyForge.NONE);
    }
}
