/** The boundary cases of promise 10: conforms. */
final class Promise10 {
    private Promise10() {
    }

    static void run() {
        there();
        missingIfNothingIs();
        ofThatSort();
        orMissing();
        whether();
        wrongNumbers();
    }

    private static void there() {
        Due.sentence(10, "An ENTITY CONFORMS if it is there, and each ATTRIBUTE of its KIND is as DECLARED:");
        PolicyForge x = new PolicyForge();
        for (int n = 0; n < 16; n++) {
            int e = n;
            Due.is(e + " is not there", false, () -> x.conforms(e));
            x.entity(e, e % 3);
            Due.is(e + " is there", true, () -> x.conforms(e));
        }
        for (int a = 0; a < 3; a++) {
            x.set(15, a, 1, 1);
            Due.is("attribute " + a + " is not as declared", false, () -> x.conforms(15));
            x.declare(0, a, 1, 0, true);
            Due.is("attribute " + a + " is", true, () -> x.conforms(15));
        }
        Due.is("another of that kind is not", false, () -> x.conforms(0));
        Due.is("one of another kind is", true, () -> x.conforms(1));
    }

    private static void missingIfNothingIs() {
        Due.sentence(10, "missing if nothing is;");
        PolicyForge x = new PolicyForge();
        x.entity(0, 1);
        for (int a = 0; a < 3; a++) {
            for (int sort = 1; sort <= 3; sort++) {
                x.set(0, a, sort, 0);
                Due.is("not missing", false, () -> x.conforms(0));
            }
            x.set(0, a, 0, 0);
            Due.is("missing", true, () -> x.conforms(0));
        }
        x.declare(1, 1, 0, 0, true);
        Due.is("nothing is declared, sure or not", true, () -> x.conforms(0));
    }

    private static void ofThatSort() {
        Due.sentence(10, "of that sort (an ENTITY that is there, of that KIND)");
        PolicyForge x = new PolicyForge();
        x.entity(0, 0);
        x.declare(0, 2, 3, 1, true);
        x.set(0, 2, 3, 15);
        Due.is("an entity that is not there", false, () -> x.conforms(0));
        for (int n = 0; n < 3; n++) {
            int kind = n;
            x.entity(15, kind);
            Due.is("one of kind " + kind, kind == 1, () -> x.conforms(0));
        }
        x.set(0, 2, 3, 0);
        Due.is("itself, of another kind", false, () -> x.conforms(0));
        x.declare(0, 2, 3, 0, true);
        Due.is("itself, of that kind", true, () -> x.conforms(0));
        x.declare(0, 2, 2, 0, true);
        Due.is("an entity for a truth", false, () -> x.conforms(0));
        x.set(0, 2, 2, 0);
        Due.is("the truth false", true, () -> x.conforms(0));
        x.declare(0, 2, 1, 0, true);
        Due.is("a truth for a number", false, () -> x.conforms(0));
        x.set(0, 2, 1, Integer.MIN_VALUE);
        Due.is("the least number", true, () -> x.conforms(0));
        x.set(0, 2, 1, 0);
        Due.is("the number 0", true, () -> x.conforms(0));
        x.declare(0, 2, 3, 0, true);
        Due.is("a number for an entity", false, () -> x.conforms(0));
    }

    private static void orMissing() {
        Due.sentence(10, "or, if it is not SURE, missing.");
        PolicyForge x = new PolicyForge();
        x.entity(5, 2);
        for (int a = 0; a < 3; a++) {
            for (int sort = 1; sort <= 3; sort++) {
                x.declare(2, a, sort, 0, false);
                Due.is("not sure", true, () -> x.conforms(5));
                x.declare(2, a, sort, 0, true);
                Due.is("sure", false, () -> x.conforms(5));
            }
            x.declare(2, a, 1, 0, false);
            x.set(5, a, 2, 1);
            Due.is("not sure, and of another sort", false, () -> x.conforms(5));
            x.set(5, a, 0, 1);
            Due.is("missing again", true, () -> x.conforms(5));
        }
        x.declare(2, 0, 3, 2, false);
        x.set(5, 0, 3, 6);
        Due.is("not sure, and an entity that is not there", false, () -> x.conforms(5));
    }

    private static void whether() {
        Due.sentence(10, "Whether ENTITY e CONFORMS.");
        PolicyForge x = new PolicyForge();
        x.entity(0, 0);
        x.entity(15, 0);
        x.set(15, 0, 1, 1);
        Due.is("0", true, () -> x.conforms(0));
        Due.is("15", false, () -> x.conforms(15));
        Due.is("14", false, () -> x.conforms(14));
    }

    private static void wrongNumbers() {
        Due.sentence(10, "IllegalArgumentException if e is not 0 to 15.");
        PolicyForge x = Scene.made();
        Scene.refused(x, "conforms 16", () -> x.conforms(16));
        for (int n : Due.NEVER) {
            Due.refused("conforms " + n, () -> x.conforms(n));
        }
    }
}
