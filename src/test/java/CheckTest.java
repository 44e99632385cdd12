/** Promise 11: check. A text has a ^ before the token that is due as WRONG, or none. */
public final class CheckTest {
    private static final String HEAD = "permit(_,_,_)";

    public static void main(String[] args) {
        wrongPolicies();
        types();
        order();
        declaredAlike();
        kindsOfScopes();
        known();
        Due.end("CheckTest");
    }

    private static void check(PolicyForge x, String marked) {
        int mark = marked.indexOf('^');
        String text = marked.replace("^", "");
        Due.policy(x, 2, text);
        Due.is("check of " + marked, mark < 0 ? PolicyForge.NONE : mark, () -> x.check(2));
    }

    private static void checkWhen(PolicyForge x, String marked) {
        check(x, HEAD + "when{" + marked + "}");
    }

    private static void wrongPolicies() {
        PolicyForge x = new PolicyForge();
        Due.refused("check -1", () -> x.check(-1));
        Due.refused("check 6", () -> x.check(6));
        Due.noSuch("check of none", () -> x.check(5));
        check(x, HEAD);
        Due.noSuch("check of another", () -> x.check(1));
    }

    private static void types() {
        PolicyForge x = new PolicyForge();
        checkWhen(x, "true&&false||!true");
        checkWhen(x, "1+2*-3-4<5");
        checkWhen(x, "1<=2");
        checkWhen(x, "p in r");
        checkWhen(x, "@3 in p");
        checkWhen(x, "@3 has x");
        checkWhen(x, "r has z");
        checkWhen(x, "1==2");
        checkWhen(x, "true!=false");
        checkWhen(x, "p==@1");
        checkWhen(x, "1^==true");
        checkWhen(x, "p^!=1");
        checkWhen(x, "true ^!= r");
        checkWhen(x, "1^&&true");
        checkWhen(x, "true^&&1");
        checkWhen(x, "false^||p");
        checkWhen(x, "p^||false");
        checkWhen(x, "^!1");
        checkWhen(x, "^!p");
        checkWhen(x, "^-true<1");
        checkWhen(x, "-^-p<1");
        checkWhen(x, "1^<true");
        checkWhen(x, "p^<=1");
        checkWhen(x, "1^+true<1");
        checkWhen(x, "true^-1<1");
        checkWhen(x, "1^*p<1");
        checkWhen(x, "1 ^in p");
        checkWhen(x, "p ^in true");
        checkWhen(x, "1 ^has x");
        checkWhen(x, "(1<2) ^has x");
        checkWhen(x, "1^.x<1");
        checkWhen(x, "true^.x<1");
        check(x, HEAD + "^when{1}");
        check(x, HEAD + "^when{p}");
        check(x, HEAD + "^when{1+1}");
        check(x, HEAD + "when{true} ^unless{@1}");
        check(x, HEAD + "^unless{1}");
        check(x, HEAD + "unless{true}when{false}unless{1<2}");
    }

    private static void order() {
        PolicyForge x = new PolicyForge();
        checkWhen(x, "1^+true<2*false");
        checkWhen(x, "true&&1^+true<1");
        checkWhen(x, "1&&2^<p");
        checkWhen(x, "1<true^+1");
        checkWhen(x, "false&&(true||1^==p)");
        checkWhen(x, "true||!(^!1)");
        checkWhen(x, "1+2^+true+false<1");
        check(x, HEAD + "when{^!1}when{!1}");
        check(x, HEAD + "^when{1}when{!1}");
        check(x, HEAD + "when{true}unless{1^<p}");
    }

    private static void declaredAlike() {
        PolicyForge x = new PolicyForge();
        checkWhen(x, "p^.x<1");
        x.declare(0, 0, 1, 0, true);
        x.declare(1, 0, 1, 1, true);
        checkWhen(x, "p^.x<1");
        x.declare(2, 0, 1, 2, true);
        checkWhen(x, "p.x<1");
        checkWhen(x, "r.x<1");
        checkWhen(x, "p.x^&&true");
        x.declare(2, 0, 2, 0, true);
        checkWhen(x, "p^.x<1");
        for (int kind = 0; kind < 3; kind++) {
            x.declare(kind, 0, 3, 1, true);
        }
        checkWhen(x, "p.x==r");
        checkWhen(x, "p.x in r");
        checkWhen(x, "p.x^<1");
        checkWhen(x, "p.x^.y<1");
        x.declare(1, 1, 1, 0, true);
        checkWhen(x, "p.x.y<1");
        checkWhen(x, "p^.y<1");
        checkWhen(x, "p.x.y^.x<1");
        x.declare(1, 1, 1, 0, false);
        checkWhen(x, "p.x^.y<1");
        checkWhen(x, "p.x has y&&p.x^.y<1");
        checkWhen(x, "p has y&&p.x^.y<1");
        x.declare(0, 0, 3, 2, true);
        checkWhen(x, "p^.x==r");
        x.declare(0, 0, 0, 0, true);
        checkWhen(x, "p^.x==r");
        check(x, "permit(_,_,_)when{p has x&&p^.x==r}");
    }

    private static void kindsOfScopes() {
        PolicyForge x = new PolicyForge();
        x.declare(1, 0, 1, 0, true);
        check(x, "permit(@4,_,_)when{p^.x<1}");
        x.entity(4, 1);
        Due.is("now it has that kind", PolicyForge.NONE, () -> x.check(2));
        check(x, "permit(_,_,_)when{@4.x<1}");
        check(x, "permit(_,_,_)when{@5^.x<1}");
        check(x, "permit(_,_,@4)when{r.x<1}");
        check(x, "permit(_,_,@4)when{p^.x<1}");
        check(x, "permit(in @4,_,_)when{p^.x<1}");
        check(x, "permit(@4,_,in @4)when{p.x<1&&r^.x<1}");
        check(x, "permit(@4,_,_)when{@5 has x&&@5^.x<1}");
        check(x, "permit(@5,_,_)when{p has x&&p^.x<1}");
        check(x, "permit(@4,_,_)when{p.x<1}");
        x.entity(4, 0);
        Due.is("now it has another kind", 20, () -> x.check(2));
        x.declare(0, 0, 1, 0, false);
        check(x, "permit(@4,_,_)when{@4 has x&&@4^.x<1}");
        check(x, "permit(@4,_,_)when{p has x&&@4^.x<1}");
        check(x, "permit(@4,_,_)when{@4 has x&&p^.x<1}");
        check(x, "permit(@4,_,_)when{p has x&&p.x<1}");
    }

    private static void known() {
        PolicyForge x = new PolicyForge();
        for (int kind = 0; kind < 3; kind++) {
            x.declare(kind, 0, 1, 0, false);
            x.declare(kind, 1, 2, 0, kind != 1);
        }
        checkWhen(x, "p^.x<1");
        checkWhen(x, "p^.y");
        checkWhen(x, "p has x&&p.x<1");
        checkWhen(x, "(p)has x&&((p)).x<1");
        checkWhen(x, "p has x&&r^.x<1");
        checkWhen(x, "p has y&&p^.x<1");
        checkWhen(x, "r has x&&r.x<1");
        checkWhen(x, "p^.x<1&&p has x");
        checkWhen(x, "p has x||p^.x<1");
        checkWhen(x, "(p has x&&p has y)&&(p.x<1&&p.y)");
        checkWhen(x, "p has x&&p has y&&p.y&&p.x<1");
        checkWhen(x, "(p has x||p has x)&&p.x<1");
        checkWhen(x, "(p has x||p has y)&&p^.x<1");
        checkWhen(x, "(p has x||r has x)&&p^.x<1");
        checkWhen(x, "(p has x&&p has y||p has x)&&(p.x<1&&p^.y)");
        checkWhen(x, "!(p has x)&&p^.x<1");
        checkWhen(x, "!!(p has x)&&p^.x<1");
        checkWhen(x, "(p has x)==true&&p^.x<1");
        checkWhen(x, "p has x&&!(p.x<1)");
        checkWhen(x, "p has x&&(true||p.x<1)");
        checkWhen(x, "p has x&&-p.x+1<p.x*p.x");
        checkWhen(x, "(p has x&&true)||p^.x<1");
        checkWhen(x, "((p has x)&&true)&&p.x<1");
        checkWhen(x, "p has x&&true||p^.x<1");
        check(x, HEAD + "when{p has x}when{p.x<1}");
        check(x, HEAD + "when{p has x}unless{p.x<1}");
        check(x, HEAD + "unless{p has x}when{p^.x<1}");
        check(x, HEAD + "unless{!(p has x)}when{p^.x<1}");
        check(x, HEAD + "when{p has x&&p has y}when{p.x<1}when{p.y}");
        check(x, HEAD + "when{p has x||p has y}when{p^.x<1}");
        check(x, HEAD + "when{p^.x<1}when{p has x}");
        check(x, HEAD + "when{p has x}when{r has y}unless{r.y||p.x<1}");
        for (int kind = 0; kind < 3; kind++) {
            x.declare(kind, 0, 1, 0, true);
        }
        checkWhen(x, "p.x<1");
    }
}
