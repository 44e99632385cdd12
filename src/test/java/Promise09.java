/** The boundary cases of promise 9: declare. */
final class Promise09 {
    private Promise09() {
    }

    static void run() {
        eachKindAndAttribute();
        nothing();
        ofLookedAtFor3();
        wrongNumbers();
    }

    private static Object declare(PolicyForge x, int kind, int a, int sort, int of) {
        x.declare(kind, a, sort, of, true);
        return "declared";
    }

    private static void eachKindAndAttribute() {
        Due.sentence(9, "DECLARED is, for each KIND and ATTRIBUTE:"
                + " nothing, or a sort (1 NUMBER, 2 TRUTH, 3 an ENTITY of a KIND), and whether it is SURE.");
        for (int n = 0; n < 9; n++) {
            int kind = n / 3;
            int a = n % 3;
            for (int sort = 1; sort <= 3; sort++) {
                PolicyForge x = new PolicyForge();
                for (int e = 0; e < 3; e++) {
                    x.entity(e, e);
                }
                x.declare(kind, a, sort, 2, true);
                for (int e = 0; e < 3; e++) {
                    int entity = e;
                    Due.is("sure and missing", entity != kind, () -> x.conforms(entity));
                }
                x.declare(kind, a, sort, 2, false);
                Due.is("not sure and missing", true, () -> x.conforms(kind));
                for (int given = 1; given <= 3; given++) {
                    x.set(kind, a, given, 2);
                    boolean as = given == sort;
                    Due.is("sort " + given + " for " + sort, as, () -> x.conforms(kind));
                }
            }
        }
    }

    private static void nothing() {
        Due.sentence(9, "What is DECLARED for a KIND and ATTRIBUTE: nothing (sort 0), or a sort,");
        PolicyForge x = new PolicyForge();
        x.entity(0, 2);
        x.declare(2, 2, 1, 0, true);
        Due.is("a sure number is missing", false, () -> x.conforms(0));
        Due.is("nothing", "declared", () -> declare(x, 2, 2, 0, 0));
        Due.is("missing as nothing is", true, () -> x.conforms(0));
        x.set(0, 2, 1, 0);
        Due.is("a number where nothing is", false, () -> x.conforms(0));
        x.declare(2, 2, 2, 0, true);
        Due.is("a number where a truth is", false, () -> x.conforms(0));
        x.declare(2, 2, 1, 0, true);
        Due.is("the latest counts", true, () -> x.conforms(0));
        x.declare(2, 2, 0, 0, false);
        Due.is("nothing again", false, () -> x.conforms(0));
    }

    private static void ofLookedAtFor3() {
        Due.sentence(9, "of a KIND (looked at for 3 alone), SURE or not.");
        PolicyForge x = new PolicyForge();
        for (int sort = 0; sort < 3; sort++) {
            int some = sort;
            Due.is("of 3 for " + sort, "declared", () -> declare(x, 0, 0, some, 3));
            for (int n : Due.NEVER) {
                Due.is("of " + n + " for " + sort, "declared", () -> declare(x, 0, 0, some, n));
            }
        }
        for (int n = 0; n < 9; n++) {
            int kind = n / 3;
            int of = n % 3;
            PolicyForge y = new PolicyForge();
            y.entity(0, 0);
            y.entity(1, kind);
            y.set(0, 1, 3, 1);
            Due.is("of " + of, "declared", () -> declare(y, 0, 1, 3, of));
            Due.is("one of kind " + kind, kind == of, () -> y.conforms(0));
        }
        for (int kind = 0; kind < 3; kind++) {
            x.declare(kind, 0, 1, kind, true);
        }
        Due.policy(x, 0, "permit(_,_,_)when{p.x==1}");
        Due.is("numbers of kinds are alike", PolicyForge.NONE, () -> x.check(0));
        x.declare(1, 0, 1, 0, false);
        Due.is("one is not sure", 19, () -> x.check(0));
    }

    private static void wrongNumbers() {
        Due.sentence(9, "IllegalArgumentException if a number is not as said.");
        PolicyForge x = new PolicyForge();
        x.entity(0, 0);
        Due.refused("kind 3", () -> declare(x, 3, 0, 1, 0));
        Due.refused("attribute 3", () -> declare(x, 0, 3, 1, 0));
        Due.refused("sort 4", () -> declare(x, 0, 0, 4, 0));
        Due.refused("of 3", () -> declare(x, 0, 0, 3, 3));
        for (int n : Due.NEVER) {
            Due.refused("kind " + n, () -> declare(x, n, 0, 1, 0));
            Due.refused("attribute " + n, () -> declare(x, 0, n, 1, 0));
            Due.refused("sort " + n, () -> declare(x, 0, 0, n, 0));
            Due.refused("of " + n, () -> declare(x, 0, 0, 3, n));
        }
        Due.is("nothing was declared", true, () -> x.conforms(0));
        PolicyForge scene = Scene.made();
        Scene.refused(scene, "of 3", () -> declare(scene, 0, 0, 3, 3));
        Scene.refused(scene, "kind 3", () -> declare(scene, 3, 2, 0, 0));
    }
}
