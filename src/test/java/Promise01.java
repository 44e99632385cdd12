/** The boundary cases of promise 1: a new object. */
final class Promise01 {
    private Promise01() {
    }

    static void run() {
        noEntities();
        nothingDeclared();
        noPolicies();
        anEmptyText();
        apartFromOthers();
        calls();
    }

    private static void noEntities() {
        Due.sentence(1, "No ENTITIES,");
        PolicyForge x = new PolicyForge();
        Due.is("how many", 0, () -> x.count(2));
        for (int n = 0; n < 16; n++) {
            int e = n;
            Due.noSuch("set " + e, () -> x.set(e, 0, 1, 1));
            Due.noSuch("parent " + e, () -> x.parent(e, 15 - e));
            Due.is("conforms " + e, false, () -> x.conforms(e));
            Due.is("in itself " + e, true, () -> x.isIn(e, e));
            Due.is("in another " + e, false, () -> x.isIn(e, 15 - e));
        }
        for (int n = 0; n < 16; n++) {
            int e = n;
            Due.is("it was not there " + e, true, () -> x.entity(e, 0));
        }
    }

    private static void nothingDeclared() {
        Due.sentence(1, "nothing DECLARED,");
        for (int n = 0; n < 9; n++) {
            int kind = n / 3;
            int a = n % 3;
            PolicyForge x = new PolicyForge();
            x.entity(0, kind);
            Due.is("no attributes, kind " + kind, true, () -> x.conforms(0));
            for (int sort = 1; sort <= 3; sort++) {
                x.set(0, a, sort, 0);
                Due.is("attribute " + a + " of sort " + sort, false, () -> x.conforms(0));
            }
            Due.policy(x, 0, "permit(@0,_,_)when{p has " + "xyz".charAt(a) + "&&p." + "xyz".charAt(a) + "==1}");
            Due.is("check of attribute " + a, 29, () -> x.check(0));
        }
    }

    private static void noPolicies() {
        Due.sentence(1, "no POLICIES,");
        PolicyForge x = new PolicyForge();
        Due.is("how many", 0, () -> x.count(1));
        for (int n = 0; n < 6; n++) {
            int i = n;
            Due.is("tokens of " + i, PolicyForge.NONE, () -> x.count(10 + i));
            Due.badState("holds " + i, () -> x.holds(i, 0, 0, 0));
            Due.noSuch("check " + i, () -> x.check(i));
            Due.is("told " + i, 0, () -> x.told(i));
            Due.is("drop " + i, false, () -> x.drop(i));
        }
        Due.is("ask", false, () -> x.ask(0, 0, 0));
        Due.is("looked at", 0, () -> x.count(3));
    }

    private static void anEmptyText() {
        Due.sentence(1, "an empty TEXT.");
        PolicyForge x = new PolicyForge();
        Due.is("characters", 0, () -> x.count(0));
        Due.is("no more by text(0)", 0, () -> x.text(0));
        Due.is("where", PolicyForge.NONE, x::where);
        Due.refused("policy of nothing", () -> x.policy(0));
        Due.is("its end is missing at once", 0, x::where);
    }

    private static void apartFromOthers() {
        Due.sentence(1, "No ENTITIES, nothing DECLARED, no POLICIES, an empty TEXT.");
        PolicyForge used = Scene.made();
        PolicyForge x = new PolicyForge();
        for (int what = 0; what < 4; what++) {
            int asked = what;
            Due.is("count " + what, 0, () -> x.count(asked));
        }
        Due.is("policy 0", PolicyForge.NONE, () -> x.count(10));
        Due.is("told", 0, () -> x.told(0));
        x.entity(0, 0);
        Due.is("conforms", true, () -> x.conforms(0));
        Due.is("the other one has its own", 96, () -> used.count(0));
        Due.is("and its policies", 5, () -> used.count(1));
        Due.is("and its entities", 4, () -> used.count(2));
    }

    private static void calls() {
        Due.sentence(1, "An object is used for at most 512 calls after it has been made;");
        PolicyForge x = new PolicyForge();
        for (int turn = 0; turn < 125; turn++) {
            int i = turn % 6;
            x.text(Due.packed("permit(@"));
            x.text(Due.packed("3,_,_)  "));
            Due.is("policy of turn " + turn, 8, () -> x.policy(i));
            Due.is("ask of turn " + turn, true, () -> x.ask(3, 0, 0));
        }
        x.text(Due.packed("forbid(_"));
        x.text(Due.packed(",_,_)whe"));
        Due.refused("call 503", () -> x.policy(0));
        Due.is("call 504", 13, x::where);
        Due.is("call 505", true, () -> x.ask(3, 9, 15));
        Due.is("call 506", 6, () -> x.count(1));
        Due.is("call 507", 6, () -> x.count(3));
        Due.is("call 508", true, () -> x.entity(15, 2));
        Due.is("call 509", true, () -> x.conforms(15));
        Due.is("call 510", 3, () -> x.told(5));
        Due.is("call 511", true, () -> x.drop(5));
        Due.is("call 512", false, () -> x.holds(4, 4, 9, 15));
    }
}
