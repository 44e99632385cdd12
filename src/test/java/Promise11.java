/**
 * The boundary cases of promise 11: check. A text has a ^ before the token that is due as WRONG,
 * or none if nothing is. For each KIND x is a sure NUMBER, y a TRUTH that is not sure, z a sure
 * ENTITY of KIND 1, unless a test declares more.
 */
final class Promise11 {
    private static final String HEAD = "permit(_,_,_)";

    private Promise11() {
    }

    static void run() {
        firstToken();
        partsFirst();
        tallest();
        kindsOfScopes();
        kindsOfEntities();
        wantedTypes();
        nothingDeclared();
        notAlike();
        notSure();
        noKind();
        knownBehindAnd();
        knownByHas();
        knownByJoined();
        knownByNothingElse();
        knownBehindWhen();
        truths();
        places();
        wrongNumbers();
        notThere();
    }

    private static PolicyForge declared() {
        PolicyForge x = new PolicyForge();
        for (int kind = 0; kind < 3; kind++) {
            x.declare(kind, 0, 1, 0, true);
            x.declare(kind, 1, 2, 0, false);
            x.declare(kind, 2, 3, 1, true);
        }
        return x;
    }

    private static void check(PolicyForge x, String marked) {
        int mark = marked.indexOf('^');
        Due.policy(x, 2, marked.replace("^", ""));
        Due.is("check of " + marked, mark < 0 ? PolicyForge.NONE : mark, () -> x.check(2));
    }

    private static void when(String marked) {
        check(declared(), HEAD + "when{" + marked + "}");
    }

    private static void firstToken() {
        Due.sentence(11, "THE CHECK of a POLICY finds the first TOKEN"
                + " (of operators that one itself, of . the . ) that is WRONG,");
        when("p.x ^|| true");
        when("true ^&& p.x");
        when("1 ^== true");
        when("1 ^!= p");
        when("1 ^< true");
        when("p ^<= 1");
        when("p ^in 1");
        when("1 ^has x");
        when("1 ^+ true<1");
        when("p ^- 1<1");
        when("1 ^* p<1");
        when("^! 1");
        when("^- true<1");
        when("p ^. y");
        when("1 ^. x<1");
        when("1^<true&&1<true");
        when("!!^!1");
        when("((^-p))<1");
    }

    private static void partsFirst() {
        Due.sentence(11, "parts being checked before that of which they are parts, from the left,"
                + " both sides of && and || too.");
        when("1^+true<2*false");
        when("1+1<2^*false");
        when("1<true^+1");
        when("true<(^!1)");
        when("1+2^+true+false<1");
        when("1+(2^+true)+false<1");
        when("true&&1^<p");
        when("false&&1^<p");
        when("1^<p&&!1");
        when("false&&true||1^==p");
        when("true||1^==p");
        when("true||!(^!1)");
        when("1&&2^<p");
        when("1||p^.y");
        when("1^||p.x==1");
        when("1^&&(true||false)");
        check(declared(), HEAD + "when{^!1}when{!1}");
        check(declared(), HEAD + "^when{1}when{!1}");
        check(declared(), HEAD + "when{true}unless{1^<p}when{!1}");
    }

    /** Trees as tall as 100 characters allow. */
    private static void tallest() {
        Due.sentence(11, "repetitions group to the left.");
        when("------1" + "*1".repeat(36) + "<1");
        when("-----^-p" + "*1".repeat(36) + "<1");
        when("------1" + "*1".repeat(36) + "^<p");
        when("1" + "+1".repeat(39) + "<1");
        when("p^+1" + "+1".repeat(38) + "<1");
        when("p" + ".z".repeat(37) + ".x<1");
        when("p" + ".z".repeat(38) + "^.y");
        when("p.x^.z" + ".z".repeat(36) + "==p");
        when("1<1" + "&&1<1".repeat(15));
        when("p has y" + "&&1<1".repeat(13) + "&&p.y");
        when("p has x" + "&&1<1".repeat(13) + "&&p^.y");
        when("(p has y||1<1" + "&&1<1".repeat(12) + ")&&p^.y");
    }

    private static void kindsOfScopes() {
        Due.sentence(11, "Each part has a TYPE: NUMBER, TRUTH, or ENTITY with the KINDS that it may be:"
                + " of p and r those of its SCOPE (_ and in: all three; an ENTITY: that KIND it has now, or none),");
        for (int n = 0; n < 3; n++) {
            PolicyForge x = new PolicyForge();
            int kind = n;
            x.declare(kind, 0, 1, 0, true);
            x.entity(15, kind);
            check(x, "permit(@15,_,_)when{p.x<1}");
            check(x, "permit(_,_,@15)when{r.x<1}");
            check(x, "permit(@15,_,_)when{r^.x<1}");
            check(x, "permit(_,_,@15)when{p^.x<1}");
            check(x, "permit(in@15,_,_)when{p^.x<1}");
            check(x, "permit(_,_,in@15)when{r^.x<1}");
            check(x, "permit(_,_,_)when{p^.x<1}");
            check(x, "permit(@14,_,_)when{p^.x<1}");
            check(x, "permit(_,_,@14)when{r^.x<1}");
            check(x, "permit(@15,_,_)when{p.x<1}");
            x.entity(15, (kind + 1) % 3);
            Due.is("it has another KIND now", 21, () -> x.check(2));
            x.entity(15, kind);
            Due.is("it has that KIND again", PolicyForge.NONE, () -> x.check(2));
            x.declare((kind + 1) % 3, 0, 1, 0, true);
            check(x, "permit(in@15,_,_)when{p^.x<1}");
            x.declare((kind + 2) % 3, 0, 1, 0, true);
            check(x, "permit(in@15,_,_)when{p.x<1}");
            check(x, "permit(_,_,in@14)when{r.x<1&&p.x<1}");
        }
    }

    private static void kindsOfEntities() {
        Due.sentence(11, "of an ENTITY @ likewise, of e.a that DECLARED.");
        PolicyForge x = new PolicyForge();
        x.declare(1, 0, 3, 2, true);
        x.declare(2, 0, 1, 0, true);
        check(x, HEAD + "when{@7^.x==@7}");
        x.entity(7, 1);
        Due.is("now it has that KIND", PolicyForge.NONE, () -> x.check(2));
        check(x, HEAD + "when{@7.x.x<1}");
        check(x, HEAD + "when{@7.x.x^.x<1}");
        check(x, HEAD + "when{@7.x^<1}");
        check(x, HEAD + "when{@7.x.x^==p}");
        x.declare(1, 0, 3, 0, true);
        check(x, HEAD + "when{@7.x^.x<1}");
        x.declare(1, 0, 3, 1, true);
        check(x, HEAD + "when{@7.x.x.x.x.x.x.x.x==p}");
        x.declare(1, 0, 2, 1, true);
        check(x, HEAD + "when{@7.x}");
        x.entity(7, 2);
        check(x, HEAD + "^when{@7.x}");
    }

    private static void wantedTypes() {
        Due.sentence(11, "WRONG is: what is not of the TYPE that is wanted"
                + " (== and != want both of one of NUMBER, TRUTH, ENTITY);");
        String[] of = {"1", "true", "p"};
        for (int n = 0; n < 9; n++) {
            String left = of[n / 3];
            String right = of[n % 3];
            boolean same = n / 3 == n % 3;
            when(left + (same ? "==" : "^==") + right);
            when(left + (same ? "!=" : "^!=") + right);
            when(left + (n == 0 ? "<" : "^<") + right);
            when(left + (n == 0 ? "<=" : "^<=") + right);
            when(left + (n == 0 ? "+" : "^+") + right + "==1");
            when(left + (n == 0 ? "-" : "^-") + right + "==1");
            when(left + (n == 0 ? "*" : "^*") + right + "==1");
            when(left + (n == 4 ? "&&" : "^&&") + right);
            when(left + (n == 4 ? "||" : "^||") + right);
            when(left + (n == 8 ? " in " : " ^in ") + right);
        }
        when("-1==1");
        when("^-true==1");
        when("^-p==1");
        when("!true");
        when("^!1");
        when("^!p");
        when("p has x");
        when("1 ^has x");
        when("true ^has x");
        when("r.x==1");
        when("1^.x==1");
        when("false^.x==1");
        when("@1==p.z");
        when("p.x==r.x");
        when("p.z==r&&p.z in r&&p.z has y");
        when("p.z^==p.x");
    }

    private static void nothingDeclared() {
        Due.sentence(11, "e.a, if a KIND that e may be has nothing DECLARED for a,");
        for (int n = 0; n < 3; n++) {
            int kind = n;
            PolicyForge x = declared();
            check(x, HEAD + "when{p.x<r.x}");
            x.declare(kind, 0, 0, 0, true);
            Due.is("kind " + kind + " has nothing", 19, () -> x.check(2));
            check(x, HEAD + "when{p has x&&p^.x<1}");
            check(x, HEAD + "when{p.z==r}");
            x.entity(4, kind);
            x.entity(5, (kind + 1) % 3);
            check(x, "permit(@4,_,@5)when{r.x<1&&p^.x<1}");
        }
    }

    private static void notAlike() {
        Due.sentence(11, "or these are not all alike (sort, and KIND of it),");
        for (int n = 0; n < 3; n++) {
            PolicyForge x = declared();
            x.declare(n, 0, 2, 0, true);
            check(x, HEAD + "when{p^.x==r.x}");
            x.declare(n, 0, 3, 1, true);
            check(x, HEAD + "when{p^.x==r.x}");
            x.declare(n, 2, 3, 0, true);
            check(x, HEAD + "when{p^.z==r}");
            x.declare(n, 2, 3, 2, true);
            check(x, HEAD + "when{p^.z==r}");
            x.entity(9, n);
            check(x, "permit(@9,_,_)when{p.z==r&&p.x==r}");
            x.declare(n, 2, 3, 1, true);
            check(x, HEAD + "when{p.z==r}");
            x.declare(n, 0, 1, 2, true);
            check(x, HEAD + "when{p.x==r.x}");
        }
    }

    private static void notSure() {
        Due.sentence(11, "or, if it is not SURE for all of these, e is not p or r itself,"
                + " or not KNOWN to have it;");
        for (int n = 0; n < 3; n++) {
            PolicyForge x = declared();
            x.declare(n, 0, 1, 0, false);
            x.entity(9, n);
            x.entity(8, (n + 1) % 3);
            check(x, HEAD + "when{p^.x<1}");
            check(x, HEAD + "when{r^.x<1}");
            check(x, HEAD + "when{p has x&&p.x<1}");
            check(x, HEAD + "when{r has x&&r.x<1}");
            check(x, HEAD + "when{@9^.x<1}");
            check(x, HEAD + "when{@8.x<1}");
            check(x, "permit(@8,_,@9)when{p.x<1&&r^.x<1}");
            check(x, "permit(@9,_,_)when{p^.x<1}");
            check(x, HEAD + "when{@9 has x&&@9^.x<1}");
            check(x, "permit(@9,_,_)when{p has x&&@9^.x<1}");
            check(x, "permit(@9,_,_)when{@9 has x&&p^.x<1}");
            check(x, "permit(@9,_,_)when{p has x&&p.x<1}");
            check(x, HEAD + "when{p.z has y&&p.z^.y}");
            check(x, HEAD + "when{p has y&&p.z^.y}");
            check(x, HEAD + "when{r has x&&p^.x<1}");
            check(x, HEAD + "when{p has y&&p^.x<1}");
        }
    }

    private static void noKind() {
        Due.sentence(11, "or e may be no KIND.");
        PolicyForge x = declared();
        check(x, HEAD + "when{@15^.x<1}");
        check(x, "permit(@15,_,_)when{p^.x<1}");
        check(x, "permit(_,_,@15)when{r^.x<1}");
        check(x, "permit(@15,_,_)when{p has x&&p^.x<1}");
        check(x, HEAD + "when{@15 has x&&@15 in p&&@15==r}");
        check(x, HEAD + "when{@15^.x<1}");
        x.entity(15, 0);
        Due.is("now it has a KIND", PolicyForge.NONE, () -> x.check(2));
    }

    private static void knownBehindAnd() {
        Due.sentence(11, "KNOWN are: on the right of &&, what its left one makes KNOWN when it is true,"
                + " and what was KNOWN before.");
        when("p has y&&p.y");
        when("p^.y&&p has y");
        when("p has y||p^.y");
        when("p has y&&true&&p.y");
        when("p has y&&(true&&p.y)");
        when("p has y&&(r has y&&(r.y&&p.y))");
        when("p has y&&(p.y&&true)");
        when("p has y&&(p.y||true)");
        when("p has y&&(false||p.y)");
        when("p has y&&!p.y");
        when("p has y&&p.y==!p.y");
        when("p has y&&p.y||p^.y");
        when("(p has y&&p.y)==p^.y");
        when("(true&&p has y)&&p.y");
        when("true&&p has y&&p.y");
        when("true||p has y&&p.y");
        when("r has y&&p^.y");
        when("p has y&&r has y&&p.y&&r.y");
    }

    private static void knownByHas() {
        Due.sentence(11, "p has a (and r has a) makes that KNOWN;");
        for (String a : new String[] {"x", "y", "z"}) {
            for (String b : new String[] {"x", "y", "z"}) {
                PolicyForge x = new PolicyForge();
                for (int n = 0; n < 9; n++) {
                    x.declare(n / 3, n % 3, 1, 0, false);
                }
                check(x, HEAD + "when{p has " + a + "&&p" + (a.equals(b) ? "" : "^") + "." + b + "<1}");
                check(x, HEAD + "when{r has " + a + "&&r" + (a.equals(b) ? "" : "^") + "." + b + "<1}");
                check(x, HEAD + "when{r has " + a + "&&p^." + b + "<1}");
                check(x, HEAD + "when{p has " + a + "&&r^." + b + "<1}");
            }
        }
    }

    private static void knownByJoined() {
        Due.sentence(11, "L && R what both make;");
        when("(p has y&&r has y)&&p.y&&r.y");
        when("(p has y&&true)&&p.y");
        when("(true&&p has y)&&p.y");
        when("(true&&(r has y&&(p has y&&true)))&&(p.y==r.y)");
        Due.sentence(11, "L || R what each of both makes;");
        when("(p has y||p has y)&&p.y");
        when("(p has y||true)&&p^.y");
        when("(true||p has y)&&p^.y");
        when("(p has y||p has x)&&p^.y");
        when("(p has x||p has y)&&p^.y");
        when("(p has y||r has y)&&r^.y");
        when("(p has x&&p has y||p has y)&&p.y");
        when("(p has y||p has y&&p has x)&&p.y");
        when("(p has y&&r has y||r has y&&p has y)&&p.y&&r.y");
        when("(p has y||p has y||p has x)&&p^.y");
        Due.sentence(11, "(an EXPR in brackets what that does);");
        when("(p has y)&&p.y");
        when("((((((p has y))))))&&p.y");
        when("((p has y)&&(true))&&(p.y)");
        when("((p has y)||(p has y))&&p.y");
    }

    private static void knownByNothingElse() {
        Due.sentence(11, "others nothing.");
        when("!(p has y)&&p^.y");
        when("!!(p has y)&&p^.y");
        when("(p has y)==true&&p^.y");
        when("(p has y)!=false&&p^.y");
        when("@3 has y&&p^.y");
        when("p.z has y&&p^.y");
        when("p.z has y&&p.z^.y");
        when("p.x<1&&p^.y");
        when("p in r&&p^.y");
        when("true&&p^.y");
        noneSure("when{GET}");
        noneSure("when{true&&GET}");
        noneSure("when{!(HAS)&&GET}");
        noneSure("when{(HAS)==true&&GET}");
        noneSure("when{@3 has x&&@3 has y&&@3 has z&&GET}");
        noneSure("when{1<2&&GET}");
        noneSure("when{HAS||GET}");
        noneSure("when{(true==(HAS))&&GET}");
        noneSure("when{1==1}when{GET}");
    }

    /** The same for each ATTRIBUTE of both, when none is sure. */
    private static void noneSure(String pattern) {
        for (String of : new String[] {"p.x", "p.y", "p.z", "r.x", "r.y", "r.z"}) {
            PolicyForge x = new PolicyForge();
            for (int n = 0; n < 9; n++) {
                x.declare(n / 3, n % 3, 2, 0, false);
            }
            String has = of.replace(".", " has ");
            check(x, HEAD + pattern.replace("HAS", has).replace("GET", of.replace(".", "^.")));
        }
    }

    private static void knownBehindWhen() {
        Due.sentence(11, "An EXPR behind when makes it KNOWN in those behind it.");
        PolicyForge x = declared();
        check(x, HEAD + "when{p has y}when{p.y}");
        check(x, HEAD + "when{p has y}unless{p.y}");
        check(x, HEAD + "when{p has y}unless{true}when{p.y}");
        check(x, HEAD + "when{p has y}when{r has y}when{p.y==r.y}");
        check(x, HEAD + "when{p^.y}when{p has y}");
        check(x, HEAD + "unless{p has y}when{p^.y}");
        check(x, HEAD + "unless{!(p has y)}when{p^.y}");
        check(x, HEAD + "unless{p has y&&p.y}unless{p^.y}");
        check(x, HEAD + "when{p has y||p has x}when{p^.y}");
        check(x, HEAD + "when{p has y&&p has x}when{p.y}");
        check(x, HEAD + "when{true&&(p has y||p has y)}when{p.y}");
        check(x, HEAD + "when{p has y}".repeat(5) + "when{p.y}unless{r^.y}");
        noneSure("unless{HAS}when{GET}");
        noneSure("unless{true}when{GET}");
        noneSure("when{true}unless{HAS}unless{GET}");
    }

    private static void truths() {
        Due.sentence(11, "Each EXPR must be a TRUTH (else its when or unless is WRONG).");
        PolicyForge x = declared();
        check(x, HEAD + "^when{1}");
        check(x, HEAD + "^when{p}");
        check(x, HEAD + "^when{@1}");
        check(x, HEAD + "^when{1+1}");
        check(x, HEAD + "^when{-1}");
        check(x, HEAD + "^when{p.x}");
        check(x, HEAD + "^when{p.z}");
        check(x, HEAD + "^unless{1}");
        check(x, HEAD + "^unless{r.z}");
        check(x, HEAD + "  ^unless  {  0  }");
        check(x, HEAD + "when{true}unless{false}^when{1}unless{1}");
        check(x, HEAD + "when{1<1}".repeat(9));
        check(x, HEAD + "when{1<1}".repeat(8) + "^unless{1}");
        check(x, HEAD + "when{p has y&&p.y}");
        check(x, HEAD);
    }

    private static void places() {
        Due.sentence(11, "THE CHECK of POLICY i: the place in its text of what is WRONG, NONE if nothing is.");
        PolicyForge x = declared();
        check(x, "  permit ( _ , _ , _ )  when { 1  ^<  true }  ");
        check(x, HEAD + " ".repeat(78) + "when{p^.y}");
        check(x, HEAD + " ".repeat(80) + "^when{1}");
        for (int n = 0; n < 6; n++) {
            Due.policy(x, n, HEAD + " ".repeat(n) + "when{1}");
        }
        Due.write(x, HEAD + "when{1<1}");
        for (int n = 0; n < 6; n++) {
            int i = n;
            Due.is("check of " + i, 13 + i, () -> x.check(i));
        }
        Due.is("policy 3", 14, () -> x.policy(3));
        Due.is("nothing is wrong in it", PolicyForge.NONE, () -> x.check(3));
    }

    private static void wrongNumbers() {
        Due.sentence(11, "IllegalArgumentException if i is not 0 to 5;");
        PolicyForge x = Scene.made();
        Scene.refused(x, "check 6", () -> x.check(6));
        for (int n : Due.NEVER) {
            Due.refused("check " + n, () -> x.check(n));
        }
    }

    private static void notThere() {
        Due.sentence(11, "NoSuchElementException if it is not there.");
        PolicyForge x = new PolicyForge();
        for (int n = 0; n < 6; n++) {
            int i = n;
            Due.noSuch("check of " + i, () -> x.check(i));
            Due.policy(x, i, HEAD);
            Due.is("it is there", PolicyForge.NONE, () -> x.check(i));
            x.drop(i);
            Due.noSuch("check of " + i + " when dropped", () -> x.check(i));
        }
        PolicyForge scene = Scene.made();
        Scene.unchanged(scene, "check 5", "java.util.NoSuchElementException", () -> scene.check(5));
    }
}
