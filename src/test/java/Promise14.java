/** The boundary cases of promise 14: told. */
final class Promise14 {
    private Promise14() {
    }

    static void run() {
        latest();
        notThere();
        each();
        wrongNumbers();
    }

    private static void told(PolicyForge x, int... want) {
        for (int n = 0; n < want.length; n++) {
            int i = n;
            Due.is("told " + i, want[i], () -> x.told(i));
        }
    }

    private static void latest() {
        Due.sentence(14, "How POLICY i was in the latest ask:");
        PolicyForge x = new PolicyForge();
        Due.policy(x, 0, "permit(@0,_,_)");
        Due.policy(x, 5, "permit(@5,_,_)when{false}");
        x.ask(0, 0, 0);
        told(x, 3, 0, 0, 0, 0, 1);
        x.ask(5, 0, 0);
        told(x, 1, 0, 0, 0, 0, 2);
        Due.is("holds is no ask", true, () -> x.holds(0, 0, 0, 0));
        Due.refused("nor is a refused one", () -> x.ask(0, 10, 0));
        told(x, 1, 0, 0, 0, 0, 2);
        Due.policy(x, 1, "permit(_,_,_)");
        Due.policy(x, 5, "permit(_,_,_)");
        x.drop(0);
        told(x, 1, 0, 0, 0, 0, 2);
        x.ask(0, 0, 0);
        told(x, 0, 3, 0, 0, 0, 3);
    }

    private static void notThere() {
        Due.sentence(14, "0 not there, or none was asked,");
        PolicyForge x = new PolicyForge();
        told(x, 0, 0, 0, 0, 0, 0);
        for (int i = 0; i < 6; i++) {
            Due.policy(x, i, "permit(_,_,_)");
        }
        told(x, 0, 0, 0, 0, 0, 0);
        for (int i = 0; i < 6; i++) {
            x.drop(i);
            x.ask(0, 0, 0);
            told(x, i < 0 ? 3 : 0, i < 1 ? 3 : 0, i < 2 ? 3 : 0, i < 3 ? 3 : 0, i < 4 ? 3 : 0, i < 5 ? 3 : 0);
        }
    }

    /** What each of six slots tells for a POLICY, asked with p 0 and r 1; x of 0 is the greatest int. */
    private static void tells(int want, String text) {
        for (int n = 0; n < 6; n++) {
            int i = n;
            PolicyForge x = new PolicyForge();
            x.entity(0, 0);
            x.set(0, 0, 1, Integer.MAX_VALUE);
            Due.policy(x, i, text);
            x.ask(0, 3, 1);
            Due.is("told of " + text, want, () -> x.told(i));
            Due.is("told of another", 0, () -> x.told(5 - i));
        }
    }

    private static void each() {
        Due.sentence(14, "1 it did not fit,");
        tells(1, "permit(@1,_,_)");
        tells(1, "permit(_,2,_)");
        tells(1, "permit(_,_,in @0)");
        tells(1, "forbid(@1,_,_)when{1}");
        tells(1, "permit(_,9,_)when{p.y}");
        Due.sentence(14, "2 it fitted and did not hold,");
        tells(2, "permit(_,_,_)when{false}");
        tells(2, "forbid(@0,3,@1)unless{true}");
        tells(2, "permit(_,_,_)when{false}when{1}");
        tells(2, "permit(_,_,_)when{p.x<0}");
        Due.sentence(14, "3 it HELD,");
        tells(3, "permit(_,_,_)");
        tells(3, "forbid(_,_,_)");
        tells(3, "permit(in @0,3,in @1)when{true}unless{false}");
        Due.sentence(14, "4 TYPE, 5 MISSING, 6 OVERFLOW.");
        tells(4, "permit(_,_,_)when{1}");
        tells(4, "forbid(_,_,_)unless{r}");
        tells(4, "permit(_,_,_)when{p.x.y}");
        tells(5, "permit(_,_,_)when{r.x}");
        tells(5, "forbid(_,_,_)unless{p.y}");
        tells(6, "permit(_,_,_)when{p.x+1<0}");
        tells(6, "forbid(_,_,_)unless{p.x*p.x<0}");
    }

    private static void wrongNumbers() {
        Due.sentence(14, "REFUSED if i is not 0 to 5.");
        PolicyForge x = Scene.made();
        Due.is("told 6", PolicyForge.REFUSED, () -> x.told(6));
        for (int n : Due.NEVER) {
            Due.is("told " + n, PolicyForge.REFUSED, () -> x.told(n));
        }
        Due.is("told 0", 3, () -> x.told(0));
        Due.is("told 5", 0, () -> x.told(5));
        Due.sentence(14, "The constants: `REFUSED = -1`: A number is not as said.");
        Due.is("REFUSED", -1, () -> PolicyForge.REFUSED);
        Due.is("told 6 in a new object", -1, () -> new PolicyForge().told(6));
    }
}
