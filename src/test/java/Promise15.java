/** The boundary cases of promise 15: isIn. */
final class Promise15 {
    private Promise15() {
    }

    static void run() {
        inParents();
        notThere();
        whether();
        wrongNumbers();
    }

    private static void inParents() {
        Due.sentence(15, "ENTITY e is IN f if it is f, or some PARENT of it is IN f.");
        PolicyForge x = new PolicyForge();
        for (int e = 0; e < 16; e++) {
            x.entity(e, e % 3);
        }
        for (int e = 0; e < 15; e++) {
            x.parent(e, e + 1);
        }
        for (int n = 0; n < 256; n++) {
            int e = n / 16;
            int f = n % 16;
            Due.is(e + " in " + f, e <= f, () -> x.isIn(e, f));
        }
        PolicyForge y = new PolicyForge();
        for (int e = 0; e < 16; e++) {
            y.entity(e, 0);
        }
        for (int e = 1; e < 16; e++) {
            y.parent(e, e / 2);
            y.parent(e, 0);
        }
        Due.is("15 in 7", true, () -> y.isIn(15, 7));
        Due.is("15 in 3", true, () -> y.isIn(15, 3));
        Due.is("15 in 0", true, () -> y.isIn(15, 0));
        Due.is("15 in 6", false, () -> y.isIn(15, 6));
        Due.is("14 in 15", false, () -> y.isIn(14, 15));
        Due.is("0 in 15", false, () -> y.isIn(0, 15));
    }

    private static void notThere() {
        Due.sentence(15, "What is not there has no KIND, PARENTS or ATTRIBUTES; it is IN itself.");
        PolicyForge x = new PolicyForge();
        for (int n = 0; n < 256; n++) {
            int e = n / 16;
            int f = n % 16;
            Due.is(e + " in " + f, e == f, () -> x.isIn(e, f));
        }
        PolicyForge y = new PolicyForge();
        y.entity(0, 0);
        Due.is("nothing is in what is not there", false, () -> y.isIn(0, 15));
        Due.is("it is in nothing else", false, () -> y.isIn(15, 0));
        Due.is("it does not conform", false, () -> y.conforms(15));
        Due.policy(y, 0, "permit(in @15,_,in @15)when{p in p&&!(p has x)}unless{p has y||p has z}");
        Due.is("in itself for a policy", true, () -> y.holds(0, 15, 0, 15));
        Due.is("nothing else is", false, () -> y.holds(0, 0, 0, 15));
        Due.policy(y, 1, "permit(@15,_,_)when{p.x==1}");
        Due.noSuch("no attributes", () -> y.holds(1, 15, 0, 0));
        for (int kind = 0; kind < 3; kind++) {
            y.declare(kind, 0, 1, 0, true);
        }
        Due.is("no kind", 21, () -> y.check(1));
    }

    private static void whether() {
        Due.sentence(15, "Whether e is IN f.");
        PolicyForge x = new PolicyForge();
        x.entity(0, 0);
        x.entity(15, 0);
        x.parent(0, 15);
        Due.is("0 in 15", true, () -> x.isIn(0, 15));
        Due.is("15 in 0", false, () -> x.isIn(15, 0));
        Due.is("15 in 15", true, () -> x.isIn(15, 15));
        Due.is("0 in 0", true, () -> x.isIn(0, 0));
    }

    private static void wrongNumbers() {
        Due.sentence(15, "IllegalArgumentException if a number is not 0 to 15.");
        PolicyForge x = Scene.made();
        Scene.refused(x, "of 16", () -> x.isIn(16, 0));
        Scene.refused(x, "in 16", () -> x.isIn(0, 16));
        Due.refused("both 16", () -> x.isIn(16, 16));
        for (int n : Due.NEVER) {
            Due.refused("of " + n, () -> x.isIn(n, 0));
            Due.refused("in " + n, () -> x.isIn(0, n));
            Due.refused("both " + n, () -> x.isIn(n, n));
        }
    }
}
