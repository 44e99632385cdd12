/** The boundary cases of promise 3: policy, with the TOKENS and the grammar that it leans on. */
final class Promise03 {
    private static final String HEAD = "permit(_,_,_)";
    private static final String WHEN = "permit(_,_,_)when{";

    private Promise03() {
    }

    static void run() {
        blanks();
        numerals();
        words();
        entities();
        marks();
        heads();
        repetitions();
        atoms();
        brackets();
        groups();
        depths();
        numbersOfPolicies();
        anotherText();
        wrongNumbers();
        noPolicies();
    }

    private static void blanks() {
        Due.sentence(3, "read as TOKENS, with blanks between or not:");
        Due.tokens(8, "permit(_,_,_)");
        Due.tokens(8, " permit ( _ , _ , _ ) ");
        Due.tokens(8, "   permit   (   _   ,   _   ,   _   )   ");
        Due.tokens(8, " ".repeat(87) + HEAD);
        Due.tokens(8, HEAD + " ".repeat(87));
        Due.tokens(22, "permit ( _ , 0 , _ ) when { p has x && r . y } unless { 1 }");
        Due.tokens(22, "permit(_,0,_)when{p has x&&r.y}unless{1}");
        Due.fault("^per mit(_,_,_)");
        Due.fault(WHEN + "^phas x}");
        Due.fault(WHEN + "p ^hasx}");
        Due.fault(WHEN + "1 ^1==11}");
        Due.fault(WHEN + "1^= =1}");
        Due.fault(WHEN + "1< ^=1}");
        Due.fault("permit(^@ 1,_,_)");
    }

    private static void numerals() {
        Due.sentence(3, "NUMERALS, all digits that follow each other (one to six);");
        Due.tokens(12, WHEN + "0}");
        Due.tokens(12, WHEN + "999999}");
        Due.tokens(12, WHEN + "000000}");
        Due.fault(WHEN + "^0000000}");
        Due.fault(WHEN + "^1000000}");
        Due.fault(WHEN + "^9999999}");
        Due.fault(WHEN + "^99999999999}");
        Due.fault(WHEN + "1+^1234567}");
        Due.tokens(14, WHEN + "1has x}");
        Due.fault(WHEN + "p^1}");
        worth("0==000000");
        worth("000123==123");
        worth("999999==333333*3");
        worth("123456==123000+456");
        worth("10==9+1");
    }

    private static void worth(String truth) {
        PolicyForge x = new PolicyForge();
        Due.policy(x, 0, WHEN + truth + "}");
        Due.is(truth, true, () -> x.holds(0, 0, 0, 0));
    }

    private static void words() {
        Due.sentence(3, "words, letters a to z that follow each other:"
                + " permit forbid when unless in has true false p r x y z;");
        Due.tokens(10, "permit(in @1,_,in @2)");
        Due.tokens(34, "forbid(_,_,_)when{true&&false}unless{p has x||r has y}when{r.z in p.x}");
        Due.fault("^permi(_,_,_)");
        Due.fault("^permitt(_,_,_)");
        Due.fault("^Permit(_,_,_)");
        Due.fault("^permiT(_,_,_)");
        Due.fault("^forbi(_,_,_)");
        Due.fault("^forbids(_,_,_)");
        Due.fault("permit(^i@1,_,_)");
        Due.fault("permit(^inn@1,_,_)");
        Due.fault(HEAD + "^whe{1}");
        Due.fault(HEAD + "^whenn{1}");
        Due.fault(HEAD + "^unles{1}");
        Due.fault(HEAD + "^unlesss{1}");
        for (String none : new String[] {"tru", "truee", "fals", "falsee", "pp", "rr", "pr", "q", "a", "s", "truefalse"}) {
            Due.fault(WHEN + "^" + none + "}");
        }
        for (String none : new String[] {"w", "xx", "xy", "zz", "X", "a"}) {
            Due.fault(WHEN + "p.^" + none + "}");
            Due.fault(WHEN + "p has ^" + none + "}");
        }
        Due.fault(WHEN + "p ^ha x}");
        Due.fault(WHEN + "p ^hass x}");
        Due.fault(WHEN + "p ^i r}");
    }

    private static void entities() {
        Due.sentence(3, "@ and all digits behind it (one or two, not above 15: an ENTITY);");
        for (int e = 0; e < 16; e++) {
            Due.tokens(8, "permit(@" + e + ",_,_)");
            Due.tokens(12, WHEN + "@" + (e < 10 ? "0" : "") + e + "}");
            worth("@" + e + "==@" + (e < 10 ? "0" : "") + e);
        }
        for (int e = 16; e < 100; e++) {
            Due.fault("permit(^@" + e + ",_,_)");
        }
        Due.fault("permit(^@,_,_)");
        Due.fault("permit(^@x,_,_)");
        Due.fault("permit(^@000,_,_)");
        Due.fault("permit(^@001,_,_)");
        Due.fault("permit(^@100,_,_)");
        Due.fault("permit(^@150,_,_)");
        Due.fault("permit(^@@1,_,_)");
        Due.fault(WHEN + "^@16}");
        Due.fault(WHEN + "^@4294967297}");
        Due.fault(WHEN + "^@");
        Due.tokens(14, WHEN + "@15in@15}");
    }

    private static void marks() {
        Due.sentence(3, "and ( ) { } , . _ + - * ! == != < <= && || (longer ones where they can be).");
        Due.tokens(18, WHEN + "(p.x)<=1}");
        Due.tokens(20, WHEN + "1+2-3*4==5}");
        Due.tokens(19, WHEN + "!true&&1!=2||1}");
        Due.tokens(14, WHEN + "1<=2}");
        Due.tokens(15, WHEN + "1<-2}");
        Due.tokens(13, WHEN + "!1}");
        Due.tokens(14, WHEN + "!!1}");
        Due.tokens(14, WHEN + "1!=1}");
        Due.tokens(15, WHEN + "1!=!1}");
        Due.tokens(15, WHEN + "1==!1}");
        Due.tokens(15, WHEN + "1--1}");
        Due.fault(WHEN + "!^!=1}");
        Due.fault(WHEN + "1!=^=1}");
        Due.fault(WHEN + "1==^=1}");
        Due.fault(WHEN + "1<=^=1}");
        Due.fault(WHEN + "1^=1}");
        Due.fault(WHEN + "1^&1}");
        Due.fault(WHEN + "1^|1}");
        Due.fault(WHEN + "1&&^&1}");
        Due.fault(WHEN + "1||^|1}");
        Due.fault(WHEN + "1&&^&&1}");
        Due.fault(WHEN + "1||^||1}");
        Due.fault(WHEN + "1^>1}");
        Due.fault(WHEN + "1<^<1}");
        Due.fault(WHEN + "1<^>1}");
        Due.fault(WHEN + "1^=<1}");
        Due.fault(WHEN + "1^=");
        Due.fault(WHEN + "1^&");
    }

    private static void heads() {
        Due.sentence(3, "POLICY = ( permit | forbid ) ( SCOPE , ACTION , SCOPE ) { ( when | unless ) { EXPR } }");
        Due.tokens(8, "permit(_,_,_)");
        Due.tokens(8, "forbid(_,_,_)");
        Due.tokens(12, HEAD + "when{1}");
        Due.tokens(12, HEAD + "unless{1}");
        Due.tokens(16, HEAD + "unless{1}when{1}");
        Due.tokens(56, HEAD + "when{1}".repeat(12));
        Due.fault(HEAD + "when{1}".repeat(12) + "^(");
        Due.fault(HEAD + "^(_,_,_)");
        Due.fault(HEAD + "^permit(_,_,_)");
        Due.sentence(3, "SCOPE = _ | ENTITY | in ENTITY");
        Due.tokens(8, "permit(@0,_,@15)");
        Due.tokens(10, "permit(in@0,_,in@15)");
        Due.fault("permit(^,_,_)");
        Due.fault("permit(in^,_,_)");
        Due.fault("permit(in ^_,_,_)");
        Due.fault("permit(_,_,^)");
        Due.fault("permit(_,_,in^)");
        Due.fault("permit(^p,_,_)");
        Due.fault("permit(_,_,^0)");
        Due.sentence(3, "ACTION = _ | NUMERAL (0 to 9)");
        for (int action = 0; action < 10; action++) {
            Due.tokens(8, "permit(_," + action + ",_)");
            Due.tokens(8, "permit(_,00000" + action + ",_)");
        }
        Due.fault("permit(_,^10,_)");
        Due.fault("permit(_,^000010,_)");
        Due.fault("permit(_,^999999,_)");
        Due.fault("permit(_,^-1,_)");
        Due.fault("permit(_,^,_)");
    }

    private static void repetitions() {
        Due.sentence(3, "EXPR = AND { || AND }");
        chain("||", 26);
        Due.sentence(3, "AND = REL { && REL }");
        chain("&&", 26);
        Due.sentence(3, "REL = SUM [ ( == | != | < | <= | in ) SUM | has ATTR ]");
        for (String sign : new String[] {"==", "!=", "<", "<=", " in "}) {
            Due.tokens(14, WHEN + "1" + sign + "1}");
            Due.fault(WHEN + "1" + sign + "^}");
            Due.fault(WHEN + "1<1" + (sign + "1}").replaceFirst("\\S", "^$0"));
            Due.fault(WHEN + "1" + sign + "1^==1}");
            Due.fault(WHEN + "1" + sign + "1 ^has x}");
            Due.fault(WHEN + "1 has x" + (sign + "1}").replaceFirst("\\S", "^$0"));
        }
        Due.tokens(14, WHEN + "1 has z}");
        Due.fault(WHEN + "1 has x ^has x}");
        Due.fault(WHEN + "1 has^}");
        Due.sentence(3, "SUM = PRODUCT { ( + | - ) PRODUCT }");
        chain("+", 40);
        chain("-", 40);
        Due.sentence(3, "PRODUCT = SIGNED { * SIGNED }");
        chain("*", 40);
        Due.sentence(3, "PART = ATOM { . ATTR }");
        Due.tokens(92, WHEN + "p" + ".x".repeat(40) + "}");
        Due.tokens(13, WHEN + "-p}");
        Due.fault(WHEN + "p.^}");
        Due.fault(WHEN + "p.^.x}");
        Due.fault(WHEN + "p.^xy}");
    }

    /** None, one, and as many of an operator as a text of 100 characters has room for. */
    private static void chain(String sign, int most) {
        Due.tokens(12, WHEN + "1}");
        Due.tokens(14, WHEN + "1" + sign + "1}");
        Due.tokens(12 + 2 * most, WHEN + "1" + (sign + "1").repeat(most) + "}");
        Due.fault(WHEN + "1" + sign + "^}");
        Due.fault(WHEN + "1" + (sign + "1").repeat(most - 1) + sign + "^}");
        if (!sign.equals("-")) {
            Due.fault(WHEN + "^" + sign + "1}");
        }
    }

    private static void atoms() {
        Due.sentence(3, "ATOM = NUMERAL | true | false | ENTITY | p | r | ( EXPR )");
        for (String atom : new String[] {"7", "true", "false", "@7", "p", "r"}) {
            Due.tokens(12, WHEN + atom + "}");
            Due.tokens(14, WHEN + "(" + atom + ")}");
            Due.tokens(14, WHEN + atom + ".y}");
            Due.fault(WHEN + atom + " ^" + atom + "}");
        }
        for (String none : new String[] {"x", "y", "z", "_", "permit", "when", "in", "has", "()", ")", "{1}", ","}) {
            Due.fault(WHEN + (none.equals("()") ? "(^)" : "^" + none) + "}");
        }
        Due.sentence(3, "ATTR = x | y | z");
        for (String atom : new String[] {"x", "y", "z"}) {
            Due.tokens(14, WHEN + "p." + atom + "}");
            Due.tokens(14, WHEN + "p has " + atom + "}");
        }
        for (String none : new String[] {"p", "r", "1", "@1", "true", "(x)", "_"}) {
            Due.fault(WHEN + "p.^" + none + "}");
            Due.fault(WHEN + "p has ^" + none + "}");
        }
        Due.sentence(3, "SIGNED = ! SIGNED | - SIGNED | PART");
        Due.tokens(18, WHEN + "!-!-!-1}");
        Due.tokens(21, WHEN + "1+-1*-1-!1}");
        Due.fault(WHEN + "!^}");
        Due.fault(WHEN + "-^}");
        Due.fault(WHEN + "^+1}");
        Due.fault(WHEN + "1+^+1}");
    }

    private static void brackets() {
        Due.sentence(3, "(The ( and ) around SCOPES, the { and } around EXPR, and ( and ) of an ATOM are TOKENS;");
        Due.tokens(8, "permit(_,_,_)");
        Due.tokens(14, WHEN + "(1)}");
        Due.fault("permit ^_,_,_)");
        Due.fault("permit(_,_,_^");
        Due.fault("permit(_,_,_ ^when{1}");
        Due.fault("permit^{_,_,_}");
        Due.fault(HEAD + "when ^1}");
        Due.fault(HEAD + "when^(1)");
        Due.fault(WHEN + "1^");
        Due.fault(WHEN + "1^)");
        Due.fault(WHEN + "(1^}");
        Due.fault(WHEN + "(1)^)}");
        Due.fault(WHEN + "(1^");
        Due.fault(WHEN + "1}^}");
    }

    private static void groups() {
        Due.sentence(3, "repetitions group to the left.)");
        worth("9-4-3==2");
        worth("9-4+3==8");
        worth("1-1-1-1==-2");
        worth("2+3*4==14");
        worth("2*3+4==10");
        worth("(2+3)*4==20");
        worth("-2*3==-6");
        worth("true||true&&false");
        worth("false&&false||true");
        worth("!(true||false)==false");
        worth("1+1==2&&2<3");
        worth("!false==true");
    }

    private static void depths() {
        Due.sentence(3, "An EXPR in ( ), and a SIGNED behind ! or -, lie 1 deeper than the EXPR or SIGNED that they are"
                + " a part of; 7 deep is a fault, at its first TOKEN (EXPR in { } is 0 deep).");
        Due.tokens(24, WHEN + "((((((1))))))}");
        Due.fault(WHEN + "(((((((^1)))))))}");
        Due.fault(WHEN + "((((((( ^p)))))))}");
        Due.tokens(18, WHEN + "!!!!!!1}");
        Due.fault(WHEN + "!!!!!!!^1}");
        Due.tokens(18, WHEN + "------1}");
        Due.fault(WHEN + "-------^1}");
        Due.tokens(21, WHEN + "!(-(!(1)))}");
        Due.fault(WHEN + "!(-(!(-^1)))}");
        Due.fault(WHEN + "(!(!(!(^1))))}");
        Due.fault(WHEN + "((((((-^1))))))}");
        Due.fault(WHEN + "------(^1)}");
        Due.fault(WHEN + "(((((((^(1))))))))}");
        Due.fault(WHEN + "-------^-1}");
        Due.tokens(38, WHEN + "((((((1))))))+((((((1))))))}");
        Due.tokens(32, WHEN + "!!!!!!1&&((((((1))))))}");
        Due.tokens(40, WHEN + "((((((1))))))}when{((((((1))))))}");
        Due.fault(WHEN + "((((((1))))))}unless{1*(((((((^1)))))))}");
        Due.fault(WHEN + "1<((((((1+(^1)))))))}");
        Due.fault(WHEN + "(((((((^");
        Due.fault(WHEN + "-------  ^");
        Due.fault(WHEN + "(((((((^)");
        Due.fault(WHEN + "(((((((^&1");
        Due.fault(WHEN + "(".repeat(7) + "^" + "(".repeat(75));
        Due.fault(WHEN + "-".repeat(7) + "^" + "-".repeat(75));
    }

    private static void numbersOfPolicies() {
        Due.sentence(3, "POLICY i (0 to 5) becomes as THE TEXT says, which is empty then: how many TOKENS.");
        PolicyForge x = new PolicyForge();
        for (int n = 0; n < 6; n++) {
            int i = n;
            Due.write(x, "permit(@" + i + ",_,_)" + "when{true}".repeat(i));
            Due.is("tokens of " + i, 8 + 4 * i, () -> x.policy(i));
            Due.is("the text is empty behind " + i, 0, () -> x.count(0));
            Due.is("how many are there", i + 1, () -> x.count(1));
            Due.refused("nothing is left of it", () -> x.policy(i));
        }
        for (int n = 0; n < 6; n++) {
            int i = n;
            Due.is("it stayed " + i, 8 + 4 * i, () -> x.count(10 + i));
            Due.is("it fits " + i, true, () -> x.holds(i, i, 0, 0));
            Due.is("it fits no other " + i, false, () -> x.holds(i, i + 1, 0, 0));
        }
        Due.policy(x, 5, "forbid(_,_,@15)unless{r==p}");
        Due.is("another text for 5", 14, () -> x.count(15));
        Due.is("as that says", true, () -> x.holds(5, 0, 0, 15));
        Due.is("as that says, too", false, () -> x.holds(5, 15, 0, 15));
        Due.is("the one before it", 24, () -> x.count(14));
        Due.tokens(92, WHEN + "1" + "+1".repeat(40) + "}");
    }

    /** Nothing of what a POLICY was before, nor of an earlier text, is left in it. */
    private static void anotherText() {
        Due.sentence(3, "becomes as THE TEXT says, which is empty then:");
        PolicyForge x = new PolicyForge();
        for (int turn = 0; turn < 4; turn++) {
            Due.policy(x, 0, "forbid(@1,1,in @2)when{p==r}unless{1}");
            Due.is("it fits no other", false, () -> x.holds(0, 0, 0, 0));
            Due.policy(x, 0, HEAD);
            Due.is("it fits all", true, () -> x.holds(0, 15, 9, 14));
            Due.is("it permits all", true, () -> x.ask(0, 0, 0));
            Due.policy(x, 1, "permit(in @1,9,@2)unless{p==@3}");
            Due.is("it fits what that says", true, () -> x.holds(1, 1, 9, 2));
            Due.policy(x, 1, "forbid(_,_,_)when{p==@3}when{r==@4}");
            Due.is("it does not hold", false, () -> x.holds(1, 3, 1, 5));
            Due.is("it holds", true, () -> x.holds(1, 3, 1, 4));
            Due.is("it forbids", false, () -> x.ask(3, 1, 4));
        }
        for (int many = 1; many <= 4; many++) {
            for (int k = 0; k < many; k++) {
                Due.policy(x, 5, "forbid(in @1,1,@2)when{p==r}unless{p in r}");
            }
            Due.policy(x, 5, HEAD);
            Due.is("it fits all behind " + many, true, () -> x.holds(5, 15, 9, 14));
            Due.is("nothing is wrong in it", PolicyForge.NONE, () -> x.check(5));
        }
        shorter(WHEN + "1==1}", WHEN + "1^=");
        shorter(WHEN + "1&&1}", WHEN + "1^&");
        shorter(WHEN + "1!=1}", WHEN + "!^");
        shorter(WHEN + "111111}", WHEN + "1^");
        shorter("permit(@111,_,_)", "permit(@1^");
        shorter("permits(_,_,_)", "permit^");
        shorter(HEAD, "permit(_,_,_^");
        shorter(HEAD + "    when", "permit(_,_,_  ^");
    }

    private static void shorter(String first, String marked) {
        PolicyForge x = new PolicyForge();
        Due.write(x, first);
        Due.answer(() -> x.policy(0));
        Due.write(x, marked.replace("^", ""));
        Due.refused(marked + " behind " + first, () -> x.policy(0));
        Due.is("where of " + marked + " behind " + first, marked.indexOf('^'), x::where);
    }

    private static void wrongNumbers() {
        Due.sentence(3, "IllegalArgumentException if i is not as said (THE TEXT stays then),");
        PolicyForge x = new PolicyForge();
        Due.write(x, HEAD);
        Due.refused("policy 6", () -> x.policy(6));
        for (int n : Due.NEVER) {
            Due.refused("policy " + n, () -> x.policy(n));
            Due.is("the text stays", 13, () -> x.count(0));
        }
        Due.is("no policy", 0, () -> x.count(1));
        Due.is("the text is as before", 8, () -> x.policy(5));
        PolicyForge scene = Scene.made();
        Scene.refused(scene, "policy 6", () -> scene.policy(6));
        Scene.refused(scene, "policy -1", () -> scene.policy(-1));
    }

    private static void noPolicies() {
        Due.sentence(3, "or it is no POLICY (POLICY i stays, THE TEXT is empty, too).");
        String[] none = {"", " ", "permit", "permit(_,_,_", "permit(_,_,_))", "forbid(_,9,_)when{true}when{1",
            "forbid(@3,1,@4)when{true}unless{p}$", "forbid(_,_,_)" + "when{p.x}".repeat(9) + "when{}",
            "forbid(_,_,_)when{" + "(".repeat(82), };
        for (int n = 0; n < 6; n++) {
            int i = n;
            PolicyForge x = new PolicyForge();
            x.entity(1, 1);
            Due.policy(x, i, "permit(in @2,3,@1)when{p.x==p}unless{r==p}");
            x.entity(2, 0);
            x.set(2, 0, 3, 2);
            for (String text : none) {
                Due.write(x, text);
                Due.refused("policy of " + text, () -> x.policy(i));
                Due.is("the text is empty", 0, () -> x.count(0));
                Due.is("how many tokens", 23, () -> x.count(10 + i));
                Due.is("it still fits", true, () -> x.holds(i, 2, 3, 1));
                Due.is("not more", false, () -> x.holds(i, 2, 4, 1));
                Due.is("nor another", false, () -> x.holds(i, 2, 3, 2));
                Due.is("its check", 24, () -> x.check(i));
            }
            Due.is("one policy", 1, () -> x.count(1));
        }
        PolicyForge y = new PolicyForge();
        Due.write(y, "permit(");
        Due.refused("no policy where none was", () -> y.policy(0));
        Due.is("none is there", PolicyForge.NONE, () -> y.count(10));
    }
}
