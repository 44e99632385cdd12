/** The boundary cases of promise 6: entity. */
final class Promise06 {
    private Promise06() {
    }

    static void run() {
        numbers();
        kinds();
        there();
        nothingElse();
        staysAParent();
        whetherItWasNot();
        wrongNumbers();
    }

    private static void numbers() {
        Due.sentence(6, "ENTITIES 0 to 15, each there or not,");
        PolicyForge x = new PolicyForge();
        for (int n = 0; n < 16; n++) {
            int e = n;
            Due.noSuch(e + " is not there", () -> x.set(e, 0, 1, 1));
            Due.is(e + " is there", true, () -> x.entity(e, e % 3));
            Due.is("how many", e + 1, () -> x.count(2));
            Due.is(e + " has attributes", 0, () -> x.set(e, 0, 1, 1));
        }
        Due.refused("no more", () -> x.entity(16, 0));
        Due.is("all", 16, () -> x.count(2));
        PolicyForge last = new PolicyForge();
        Due.is("the last one alone", true, () -> last.entity(15, 0));
        Due.noSuch("not the one before", () -> last.set(14, 0, 1, 1));
        Due.is("one", 1, () -> last.count(2));
    }

    private static void kinds() {
        Due.sentence(6, "have a KIND (0 to 2),");
        for (int n = 0; n < 3; n++) {
            int kind = n;
            PolicyForge x = new PolicyForge();
            Due.is("kind " + kind, true, () -> x.entity(7, kind));
            x.declare(kind, 1, 1, 0, true);
            Due.is("what is declared for it counts", false, () -> x.conforms(7));
            x.declare(kind, 1, 0, 0, true);
            x.declare((kind + 1) % 3, 1, 1, 0, true);
            x.declare((kind + 2) % 3, 1, 1, 0, true);
            Due.is("what is declared for others does not", true, () -> x.conforms(7));
        }
        PolicyForge y = new PolicyForge();
        Due.refused("kind 3", () -> y.entity(7, 3));
        Due.refused("kind -1", () -> y.entity(7, -1));
    }

    private static void there() {
        Due.sentence(6, "ENTITY e is there from now on, with this KIND,");
        PolicyForge x = new PolicyForge();
        x.declare(2, 0, 1, 0, true);
        x.entity(3, 0);
        Due.is("kind 0", true, () -> x.conforms(3));
        x.entity(3, 2);
        Due.is("another kind", false, () -> x.conforms(3));
        Due.is("one of them", 1, () -> x.count(2));
        x.entity(3, 1);
        Due.is("a third kind", true, () -> x.conforms(3));
    }

    private static void nothingElse() {
        Due.sentence(6, "and no PARENTS and ATTRIBUTES");
        PolicyForge x = new PolicyForge();
        for (int e = 0; e < 4; e++) {
            x.entity(e, 0);
        }
        x.parent(0, 1);
        x.parent(1, 2);
        x.parent(0, 3);
        for (int a = 0; a < 3; a++) {
            x.set(0, a, a + 1, 1);
            x.set(1, a, a + 1, 1);
        }
        Due.is("again", false, () -> x.entity(0, 0));
        Due.is("no parent", false, () -> x.isIn(0, 1));
        Due.is("no other parent", false, () -> x.isIn(0, 3));
        Due.is("no parent's parent", false, () -> x.isIn(0, 2));
        Due.is("in itself", true, () -> x.isIn(0, 0));
        Due.is("conforms without attributes", true, () -> x.conforms(0));
        for (int n = 0; n < 3; n++) {
            int a = n;
            Due.is("attribute " + a, 0, () -> x.set(0, a, 0, 0));
            Due.is("another's attribute " + a, a + 1, () -> x.set(1, a, 0, 0));
        }
        Due.is("another's parent", true, () -> x.isIn(1, 2));
        Due.is("it becomes a parent once more", true, () -> x.parent(0, 1));
    }

    private static void staysAParent() {
        Due.sentence(6, "(it stays a PARENT of others):");
        PolicyForge x = new PolicyForge();
        for (int e = 0; e < 4; e++) {
            x.entity(e, 0);
        }
        x.parent(0, 1);
        x.parent(2, 1);
        x.parent(1, 3);
        x.entity(1, 2);
        Due.is("of 0", true, () -> x.isIn(0, 1));
        Due.is("of 2", true, () -> x.isIn(2, 1));
        Due.is("already of 0", false, () -> x.parent(0, 1));
        Due.is("its parents are gone for others, too", false, () -> x.isIn(0, 3));
        Due.badState("no circle", () -> x.parent(1, 0));
        Due.is("no circle with what was above it", true, () -> x.parent(3, 1));
    }

    private static void whetherItWasNot() {
        Due.sentence(6, "whether it was not.");
        PolicyForge x = new PolicyForge();
        for (int n = 0; n < 16; n++) {
            int e = n;
            Due.is("new " + e, true, () -> x.entity(e, 2));
            Due.is("not new " + e, false, () -> x.entity(e, 2));
            Due.is("not new by another kind " + e, false, () -> x.entity(e, 0));
        }
    }

    private static void wrongNumbers() {
        Due.sentence(6, "IllegalArgumentException if a number is not as said.");
        PolicyForge x = Scene.made();
        Scene.refused(x, "entity 16", () -> x.entity(16, 0));
        PolicyForge y = Scene.made();
        Scene.refused(y, "kind 3", () -> y.entity(0, 3));
        PolicyForge z = new PolicyForge();
        Due.refused("both", () -> z.entity(16, 3));
        for (int n : Due.NEVER) {
            Due.refused("entity " + n, () -> z.entity(n, 0));
            Due.refused("kind " + n, () -> z.entity(0, n));
        }
        Due.is("none", 0, () -> z.count(2));
    }
}
