/** The boundary cases of promise 7: parent. */
final class Promise07 {
    private static final String NO_SUCH = "java.util.NoSuchElementException";
    private static final String BAD_STATE = "java.lang.IllegalStateException";

    private Promise07() {
    }

    static void run() {
        circles();
        whetherItWasNot();
        wrongNumbers();
        notThere();
        inIt();
    }

    private static PolicyForge full() {
        PolicyForge x = new PolicyForge();
        for (int e = 0; e < 16; e++) {
            x.entity(e, e % 3);
        }
        return x;
    }

    private static void circles() {
        Due.sentence(7, "PARENTS (ENTITIES that are there; never in circles),");
        PolicyForge x = full();
        for (int n = 0; n < 15; n++) {
            int e = n;
            Due.is("a chain", true, () -> x.parent(e, e + 1));
            Due.badState("a circle from " + (e + 1), () -> x.parent(e + 1, 0));
            Due.badState("back to " + e, () -> x.parent(e + 1, e));
        }
        Due.is("up", true, () -> x.isIn(0, 15));
        Due.is("not down", false, () -> x.isIn(15, 0));
        PolicyForge none = new PolicyForge();
        none.entity(15, 0);
        Due.noSuch("a parent that is not there", () -> none.parent(15, 0));
        Due.is("it became none", false, () -> none.isIn(15, 0));
    }

    private static void whetherItWasNot() {
        Due.sentence(7, "ENTITY f becomes a PARENT of e: whether it was not.");
        PolicyForge x = full();
        for (int n = 1; n < 16; n++) {
            int f = n;
            Due.is(f + " of 0", true, () -> x.parent(0, f));
            Due.is(f + " of 0 again", false, () -> x.parent(0, f));
            Due.is("in it", true, () -> x.isIn(0, f));
        }
        Due.is("in a parent already", true, () -> x.parent(1, 2));
        Due.is("the last one", true, () -> x.parent(15, 14));
        Due.is("the last one again", false, () -> x.parent(15, 14));
        Due.is("all are there", 16, () -> x.count(2));
    }

    private static void wrongNumbers() {
        Due.sentence(7, "IllegalArgumentException if a number is not as said;");
        PolicyForge x = Scene.made();
        Scene.refused(x, "parent 16", () -> x.parent(0, 16));
        PolicyForge y = Scene.made();
        Scene.refused(y, "of 16", () -> y.parent(16, 0));
        PolicyForge z = new PolicyForge();
        z.entity(0, 0);
        for (int n : Due.NEVER) {
            Due.refused("parent " + n, () -> z.parent(0, n));
            Due.refused("of " + n, () -> z.parent(n, 0));
        }
        Due.refused("both", () -> z.parent(16, 16));
        Due.refused("one that is not there, and a wrong number", () -> z.parent(9, 16));
        Due.refused("a wrong number, and one that is not there", () -> z.parent(-1, 9));
    }

    private static void notThere() {
        Due.sentence(7, "NoSuchElementException if one is not there;");
        PolicyForge x = Scene.made();
        Scene.unchanged(x, "parent 15", NO_SUCH, () -> x.parent(0, 15));
        PolicyForge y = Scene.made();
        Scene.unchanged(y, "of 15", NO_SUCH, () -> y.parent(15, 0));
        PolicyForge z = new PolicyForge();
        Due.noSuch("both", () -> z.parent(0, 15));
        Due.noSuch("one that is IN itself", () -> z.parent(3, 3));
        z.entity(0, 0);
        Due.noSuch("15 still", () -> z.parent(0, 15));
        z.entity(15, 0);
        Due.is("both are there", true, () -> z.parent(0, 15));
    }

    private static void inIt() {
        Due.sentence(7, "IllegalStateException if f is IN e.");
        PolicyForge x = Scene.made();
        Scene.unchanged(x, "itself", BAD_STATE, () -> x.parent(3, 3));
        PolicyForge y = Scene.made();
        Scene.unchanged(y, "its child", BAD_STATE, () -> y.parent(1, 0));
        PolicyForge z = Scene.made();
        Scene.unchanged(z, "its child's child", BAD_STATE, () -> z.parent(2, 0));
        Due.is("one that is beside it", true, () -> z.parent(2, 3));
        Due.badState("now it is above", () -> z.parent(3, 0));
        Due.is("e being IN f is none", true, () -> z.parent(0, 2));
        z.entity(1, 1);
        z.entity(0, 0);
        Due.is("no more in it", true, () -> z.parent(2, 0));
    }
}
