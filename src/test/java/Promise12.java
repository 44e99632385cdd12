/**
 * The boundary cases of promise 12: holds. ENTITY 0 (x 5, y true, z the ENTITY 1) is IN 1, and that
 * IN 2; 1 has x, the least int, and 2 has x, the greatest one. An EXPR is asked with p 0 and r 1.
 */
final class Promise12 {
    private static final String HEAD = "permit(_,_,_)";
    private static final String TYPE = "java.lang.UnsupportedOperationException";
    private static final String MISSING = "java.util.NoSuchElementException";
    private static final String OVERFLOW = "java.lang.ArithmeticException";
    private static final String LEAST = "@1.x";
    private static final String GREATEST = "@2.x";

    private Promise12() {
    }

    static void run() {
        fitting();
        holding();
        inOrder();
        askedFor();
        lookedAtOnTheRight();
        compared();
        wanted();
        attributes();
        overflows();
        errorsInOrder();
        tallest();
        numbers();
        wrongNumbers();
        noPolicy();
        errors();
    }

    private static PolicyForge with(String text) {
        PolicyForge x = new PolicyForge();
        for (int e = 0; e < 3; e++) {
            x.entity(e, e);
        }
        x.parent(0, 1);
        x.parent(1, 2);
        x.set(0, 0, 1, 5);
        x.set(0, 1, 2, 1);
        x.set(0, 2, 3, 1);
        x.set(1, 0, 1, Integer.MIN_VALUE);
        x.set(2, 0, 1, Integer.MAX_VALUE);
        Due.policy(x, 0, text);
        return x;
    }

    /** What the text answers for p 0 and r 1. */
    private static void holds(Object want, String text) {
        PolicyForge x = with(text);
        Due.is(text, want, () -> x.holds(0, 0, 0, 1));
    }

    /** What an EXPR is worth: a truth or an error. */
    private static void worth(Object want, String expr) {
        holds(want, HEAD + "when{" + expr + "}");
        holds(want instanceof Boolean ? !(Boolean) want : want, HEAD + "unless{" + expr + "}");
    }

    private static void fits(boolean want, String head, int p, int action, int r) {
        PolicyForge x = with(head);
        Due.is(head + " for " + p + " " + action + " " + r, want, () -> x.holds(0, p, action, r));
    }

    private static void fitting() {
        Due.sentence(12, "FITTING: a POLICY fits a principal p, an action, a resource r, if its SCOPES do"
                + " (_ always; an ENTITY if it is that; in ENTITY if it is IN that) and its ACTION does.");
        fits(true, "permit(_,_,_)", 15, 9, 15);
        fits(true, "permit(_,_,_)", 0, 0, 0);
        for (int e = 0; e < 16; e++) {
            fits(true, "permit(@" + e + ",_,_)", e, 0, 3);
            fits(false, "permit(@" + e + ",_,_)", 15 - e, 0, e);
            fits(true, "permit(_,_,@" + e + ")", 3, 0, e);
            fits(false, "permit(_,_,@" + e + ")", e, 0, 15 - e);
            fits(true, "permit(in@" + e + ",_,in @" + e + ")", e, 0, e);
        }
        fits(false, "permit(@2,_,_)", 0, 0, 2);
        fits(true, "permit(in @2,_,_)", 0, 0, 9);
        fits(true, "permit(in @1,_,_)", 0, 0, 9);
        fits(false, "permit(in @1,_,_)", 2, 0, 0);
        fits(false, "permit(in @1,_,_)", 9, 0, 1);
        fits(true, "permit(_,_,in @2)", 9, 0, 0);
        fits(false, "permit(_,_,in @0)", 0, 0, 2);
        for (int action = 0; action < 10; action++) {
            fits(true, "permit(_," + action + ",_)", 0, action, 0);
            fits(false, "permit(_," + action + ",_)", 0, 9 - action, 0);
        }
        fits(false, "permit(@0,3,in @1)", 0, 4, 1);
        fits(false, "permit(@0,3,in @1)", 1, 3, 1);
        fits(false, "permit(@0,3,in @1)", 0, 3, 2);
        fits(true, "permit(@0,3,in @1)", 0, 3, 0);
    }

    private static void holding() {
        Due.sentence(12, "It HOLDS if it fits, each EXPR behind when is true, each behind unless false,");
        holds(true, HEAD);
        holds(true, "forbid(_,_,_)");
        holds(true, HEAD + "when{true}");
        holds(false, HEAD + "when{false}");
        holds(true, HEAD + "unless{false}");
        holds(false, HEAD + "unless{true}");
        holds(true, HEAD + "when{true}unless{false}when{true}");
        holds(false, HEAD + "when{true}unless{false}when{false}");
        holds(false, HEAD + "unless{false}unless{true}");
        holds(true, HEAD + "when{1<2}".repeat(9));
        holds(false, HEAD + "when{1<2}".repeat(8) + "when{2<1}");
        holds(false, "permit(@3,_,_)when{true}");
        holds(false, "permit(@3,_,_)when{1}");
        holds(false, "permit(_,1,_)when{r.y}");
    }

    private static void inOrder() {
        Due.sentence(12, "looked at in order, up to the first that is not so"
                + " (a NUMBER or an ENTITY there is an ERROR, TYPE).");
        holds(false, HEAD + "when{false}when{1}");
        holds(false, HEAD + "unless{true}when{r.y}");
        holds(TYPE, HEAD + "when{1}when{false}");
        holds(TYPE, HEAD + "when{true}unless{p}unless{true}");
        holds(MISSING, HEAD + "unless{r.y}when{1}");
        holds(OVERFLOW, HEAD + "when{-" + LEAST + "==1}when{false}");
        holds(TYPE, HEAD + "when{0}");
        holds(TYPE, HEAD + "when{1}");
        holds(TYPE, HEAD + "unless{0}");
        holds(TYPE, HEAD + "unless{@0}");
        holds(TYPE, HEAD + "when{p}");
        holds(TYPE, HEAD + "when{p.z}");
        holds(TYPE, HEAD + "when{1}".repeat(12));
        holds(TYPE, HEAD + "when{1<2}".repeat(8) + "when{r}");
    }

    private static void askedFor() {
        Due.sentence(12, "What an EXPR is worth: p and r are the ENTITIES asked for.");
        PolicyForge x = with(HEAD + "when{p==@0}unless{r==@0}");
        Due.policy(x, 1, HEAD + "when{p==@15&&r==@14}");
        Due.policy(x, 2, HEAD + "when{p==r}");
        Due.is("0 and 15", true, () -> x.holds(0, 0, 0, 15));
        Due.is("0 and 0", false, () -> x.holds(0, 0, 0, 0));
        Due.is("15 and 0", false, () -> x.holds(0, 15, 0, 0));
        Due.is("15 and 14", true, () -> x.holds(1, 15, 0, 14));
        Due.is("14 and 15", false, () -> x.holds(1, 14, 0, 15));
        for (int n = 0; n < 16; n++) {
            int e = n;
            Due.is("the same " + e, true, () -> x.holds(2, e, 0, e));
            Due.is("another " + e, false, () -> x.holds(2, e, 0, 15 - e));
        }
    }

    private static void lookedAtOnTheRight() {
        Due.sentence(12, "&& and || want TRUTHS, and look at the right one only if the left one does not say it;");
        String[] truths = {"false", "true"};
        for (int n = 0; n < 4; n++) {
            worth(n == 3, truths[n / 2] + "&&" + truths[n % 2]);
            worth(n != 0, truths[n / 2] + "||" + truths[n % 2]);
        }
        for (String wrong : new String[] {"1", "p"}) {
            worth(false, "false&&" + wrong);
            worth(true, "true||" + wrong);
            worth(TYPE, "true&&" + wrong);
            worth(TYPE, "false||" + wrong);
            worth(TYPE, wrong + "&&true");
            worth(TYPE, wrong + "&&r.y");
            worth(TYPE, wrong + "||r.y");
            worth(TYPE, wrong + "||false");
            worth(TYPE, wrong + "&&" + wrong);
        }
        worth(false, "false&&r.y");
        worth(true, "true||r.y");
        worth(MISSING, "true&&r.y");
        worth(MISSING, "false||r.y");
        worth(MISSING, "r.y&&false");
        worth(MISSING, "r.y||true");
        worth(true, "false&&r.y||true");
        worth(true, "true||r.y&&r.y");
        worth(false, "true&&false&&r.y");
        worth(true, "false||true||r.y");
        worth(MISSING, "(true||r.y)&&r.y");
    }

    private static void compared() {
        Due.sentence(12, "== and != compare anything (of different sorts: not the same);");
        String[] all = {"0", "1", "false", "true", "@0", "@1", LEAST, "-1"};
        for (int n = 0; n < all.length * all.length; n++) {
            boolean same = n / all.length == n % all.length;
            worth(same, all[n / all.length] + "==" + all[n % all.length]);
            worth(!same, all[n / all.length] + "!=" + all[n % all.length]);
        }
        worth(true, "p==@0&&r==@1&&p.z==r");
        worth(true, "p.y==true&&p.x==5");
        worth(true, "@15==@15");
        worth(MISSING, "r.y==r.y");
        worth(MISSING, "r.y!=1");
    }

    private static void wanted() {
        Due.sentence(12, "< <= + - * and - of one want NUMBERS, ! a TRUTH, in two ENTITIES, has and . an ENTITY.");
        worth(true, "1<2");
        worth(false, "2<2");
        worth(false, "3<2");
        worth(true, "1<=2");
        worth(true, "2<=2");
        worth(false, "3<=2");
        worth(true, LEAST + "<" + GREATEST);
        worth(false, GREATEST + "<=" + LEAST);
        worth(true, "!false");
        worth(false, "!true");
        worth(true, "p in r&&p in @2&&@9 in @9");
        worth(false, "r in p||@9 in p||p in @9");
        String[] of = {"1", "true", "p"};
        for (int n = 1; n < 9; n++) {
            for (String sign : new String[] {"<", "<="}) {
                worth(TYPE, of[n / 3] + sign + of[n % 3]);
            }
            for (String sign : new String[] {"+", "-", "*"}) {
                worth(TYPE, of[n / 3] + sign + of[n % 3] + "==1");
            }
            if (n < 8) {
                worth(TYPE, of[n / 3] + " in " + of[n % 3]);
            }
        }
        worth(TYPE, "1 in 1");
        worth(TYPE, "-true==1");
        worth(TYPE, "-p==1");
        worth(TYPE, "!1");
        worth(TYPE, "!0");
        worth(TYPE, "!p");
        worth(TYPE, "0 has x");
        worth(TYPE, "false has x");
        worth(TYPE, "0.x==1");
        worth(TYPE, "true.x==1");
        worth(TYPE, "p.x.x==1");
        worth(TYPE, "p.y has x");
    }

    private static void attributes() {
        Due.sentence(12, "e has a: whether that ATTRIBUTE is not missing;");
        worth(true, "p has x&&p has y&&p has z");
        worth(true, "r has x");
        worth(false, "r has y");
        worth(false, "r has z");
        worth(false, "@15 has x||@15 has y||@15 has z");
        worth(true, "p.z has x");
        worth(false, "p.z has y");
        worth(MISSING, "r.z has x");
        Due.sentence(12, "e.a is the ATTRIBUTE.");
        worth(true, "p.x==5&&p.y&&p.z==@1");
        worth(true, "p.z.x==r.x&&p.z in @2");
        worth(true, "(p.z).x<0&&(p).x==5");
        worth(MISSING, "r.y");
        worth(MISSING, "r.z==r");
        worth(MISSING, "p.z.y");
        worth(MISSING, "p.z.z.x==1");
        worth(MISSING, "@15.x==1");
        worth(MISSING, "@15.y");
        worth(MISSING, "@15.z==p");
        PolicyForge x = with(HEAD + "when{p.y}");
        Due.noSuch("of one that is not there", () -> x.holds(0, 15, 0, 0));
    }

    private static void overflows() {
        Due.sentence(12, "Else an ERROR: TYPE (something is not of the sort that is wanted),"
                + " MISSING (an ATTRIBUTE), OVERFLOW (beyond ints).");
        worth(TYPE, "1+true==1");
        worth(MISSING, "r.y");
        worth(OVERFLOW, GREATEST + "+1==0");
        worth(OVERFLOW, "1+" + GREATEST + "==0");
        worth(true, GREATEST + "+0==" + GREATEST);
        worth(true, GREATEST + "+-1<" + GREATEST);
        worth(OVERFLOW, GREATEST + "+" + GREATEST + "==-2");
        worth(OVERFLOW, GREATEST + "--1==0");
        worth(OVERFLOW, LEAST + "-1==0");
        worth(OVERFLOW, LEAST + "+-1==0");
        worth(OVERFLOW, LEAST + "+" + LEAST + "==0");
        worth(true, LEAST + "+" + GREATEST + "==-1");
        worth(true, "-1-" + GREATEST + "==" + LEAST);
        worth(OVERFLOW, "-2-" + GREATEST + "==0");
        worth(true, "-1-" + LEAST + "==" + GREATEST);
        worth(OVERFLOW, "0-" + LEAST + "==0");
        worth(true, LEAST + "-" + LEAST + "==0");
        worth(OVERFLOW, GREATEST + "-" + LEAST + "==-1");
        worth(OVERFLOW, "-" + LEAST + "==" + LEAST);
        worth(true, "-" + GREATEST + "-1==" + LEAST);
        worth(true, "--" + GREATEST + "==" + GREATEST);
        worth(OVERFLOW, LEAST + "*-1==" + LEAST);
        worth(OVERFLOW, "-1*" + LEAST + "==" + LEAST);
        worth(true, LEAST + "*1==" + LEAST);
        worth(true, LEAST + "*0==0");
        worth(true, GREATEST + "*-1-1==" + LEAST);
        worth(OVERFLOW, GREATEST + "*2==-2");
        worth(OVERFLOW, LEAST + "*2==0");
        worth(OVERFLOW, LEAST + "*" + LEAST + "==0");
        worth(OVERFLOW, GREATEST + "*" + GREATEST + "==1");
        worth(OVERFLOW, "65536*65536==0");
        worth(OVERFLOW, "65536*32768==" + LEAST);
        worth(true, "65536*-32768==" + LEAST);
        worth(OVERFLOW, "65536*-32768-1==" + GREATEST);
        worth(true, "46340*46340==46340*46340");
        worth(OVERFLOW, "46341*46341<0");
        worth(OVERFLOW, "999999*999999<1");
        worth(true, "1<999999*2147");
        worth(OVERFLOW, "1<999999*2148");
        worth(OVERFLOW, GREATEST + "+1-1==" + GREATEST);
        worth(OVERFLOW, "true&&" + GREATEST + "+1==0");
        worth(false, "false&&" + GREATEST + "+1==0");
    }

    private static void errorsInOrder() {
        Due.sentence(12, "Of an operator with two parts (but && ||) both are looked at, the left one first,"
                + " then the left one is tested, then the right one.");
        String over = "(-" + LEAST + ")";
        for (String sign : new String[] {"==", "!=", "<", "<=", " in ", "+", "-", "*"}) {
            String behind = "+-*".contains(sign) ? "==1" : "";
            worth(MISSING, "r.y" + sign + over + behind);
            worth(OVERFLOW, over + sign + "r.y" + behind);
            worth(MISSING, "r.y" + sign + "(1+p)" + behind);
            worth(TYPE, "(1+p)" + sign + "r.y" + behind);
            worth(MISSING, "true" + sign + "r.y" + behind);
            worth(OVERFLOW, "true" + sign + over + behind);
            worth(MISSING, "r.y" + sign + "true" + behind);
            worth(OVERFLOW, over + sign + "true" + behind);
        }
        worth(TYPE, "true<1");
        worth(TYPE, "1<true");
        worth(TYPE, "true<p");
        worth(TYPE, "true&&1<p.y");
        worth(MISSING, "!r.y");
        worth(OVERFLOW, "-" + over + "==1");
        worth(MISSING, "r.y.x==1");
        worth(MISSING, "r.z has x");
    }

    /** Trees as tall as 100 characters allow. */
    private static void tallest() {
        Due.sentence(12, "repetitions group to the left.");
        holds(true, HEAD + "when{------1" + "*1".repeat(36) + "<2}");
        holds(false, HEAD + "when{------1" + "*1".repeat(36) + "<1}");
        holds(OVERFLOW, HEAD + "when{-----" + LEAST + "*1".repeat(34) + "<2}");
        holds(MISSING, HEAD + "when{------r.y" + "*1".repeat(35) + "<2}");
        holds(true, HEAD + "when{1" + "-1".repeat(39) + "<0}");
        holds(false, HEAD + "when{1" + "+1".repeat(39) + "<1}");
        holds(true, HEAD + "when{1<2" + "&&1<2".repeat(15) + "}");
        holds(false, HEAD + "when{1<1" + "||1<1".repeat(15) + "}");
        String chain = HEAD + "when{p" + ".z".repeat(38) + "==p}";
        PolicyForge x = with(chain);
        Due.is(chain, MISSING, () -> x.holds(0, 0, 0, 1));
        x.set(1, 2, 3, 0);
        Due.is("the ENTITIES 0 and 1 by turns: " + chain, true, () -> x.holds(0, 0, 0, 1));
    }

    private static void numbers() {
        Due.sentence(12, "Whether POLICY i HOLDS for p, an action and r (0 to 15, 0 to 9).");
        for (int n = 0; n < 6; n++) {
            int i = n;
            PolicyForge x = new PolicyForge();
            Due.policy(x, i, "permit(_,9,_)");
            for (int m = 0; m < 16; m++) {
                int e = m;
                Due.is("p " + e, true, () -> x.holds(i, e, 9, 0));
                Due.is("r " + e, true, () -> x.holds(i, 0, 9, e));
            }
            for (int m = 0; m < 10; m++) {
                int action = m;
                Due.is("action " + action, action == 9, () -> x.holds(i, 15, action, 15));
            }
        }
    }

    private static void wrongNumbers() {
        Due.sentence(12, "IllegalArgumentException if a number is not as said;");
        PolicyForge x = with(HEAD);
        Due.refused("policy 6", () -> x.holds(6, 0, 0, 0));
        Due.refused("p 16", () -> x.holds(0, 16, 0, 0));
        Due.refused("action 10", () -> x.holds(0, 0, 10, 0));
        Due.refused("r 16", () -> x.holds(0, 0, 0, 16));
        for (int n : Due.NEVER) {
            Due.refused("policy " + n, () -> x.holds(n, 0, 0, 0));
            Due.refused("p " + n, () -> x.holds(0, n, 0, 0));
            Due.refused("action " + n, () -> x.holds(0, 0, n, 0));
            Due.refused("r " + n, () -> x.holds(0, 0, 0, n));
            Due.refused("p " + n + " without a policy", () -> x.holds(5, n, 0, 0));
        }
        PolicyForge scene = Scene.made();
        Scene.refused(scene, "p 16", () -> scene.holds(0, 16, 0, 0));
    }

    private static void noPolicy() {
        Due.sentence(12, "IllegalStateException if there is no POLICY i;");
        PolicyForge x = new PolicyForge();
        for (int n = 0; n < 6; n++) {
            int i = n;
            Due.badState("none yet", () -> x.holds(i, 0, 0, 0));
            Due.policy(x, i, HEAD);
            Due.is("one", true, () -> x.holds(i, 0, 0, 0));
            x.drop(i);
            Due.badState("none any more", () -> x.holds(i, 0, 0, 0));
        }
        PolicyForge scene = Scene.made();
        Scene.unchanged(scene, "holds 5", "java.lang.IllegalStateException", () -> scene.holds(5, 0, 0, 0));
    }

    private static void errors() {
        Due.sentence(12, "UnsupportedOperationException for TYPE,");
        PolicyForge x = Scene.made();
        Scene.unchanged(x, "policy 3", TYPE, () -> x.holds(3, 0, 3, 0));
        holds(TYPE, HEAD + "when{1&&true}");
        Due.sentence(12, "NoSuchElementException for MISSING,");
        PolicyForge y = Scene.made();
        Scene.unchanged(y, "policy 2", MISSING, () -> y.holds(2, 0, 0, 3));
        holds(MISSING, HEAD + "when{r.y}");
        Due.sentence(12, "ArithmeticException for OVERFLOW.");
        PolicyForge z = Scene.made();
        Scene.unchanged(z, "policy 1", OVERFLOW, () -> z.holds(1, 0, 0, 0));
        holds(OVERFLOW, HEAD + "when{-r.x<0}");
    }
}
