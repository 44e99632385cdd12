/** The boundary cases of promise 16: count. */
final class Promise16 {
    private Promise16() {
    }

    static void run() {
        characters();
        policies();
        entities();
        lookedAt();
        tokens();
        others();
    }

    private static void characters() {
        Due.sentence(16, "What 0: characters of THE TEXT,");
        PolicyForge x = new PolicyForge();
        for (int n = 0; n <= 100; n++) {
            int many = n;
            Due.is("characters", many, () -> x.count(0));
            Due.answer(() -> x.text(' '));
        }
        Due.is("no more than 100", 100, () -> x.count(0));
        Due.refused("blanks", () -> x.policy(0));
        Due.is("empty again", 0, () -> x.count(0));
    }

    private static void policies() {
        Due.sentence(16, "1: POLICIES,");
        PolicyForge x = new PolicyForge();
        for (int n = 0; n < 6; n++) {
            int many = n;
            Due.is("policies", many, () -> x.count(1));
            Due.policy(x, 5 - n, "permit(_,_,_)");
        }
        Due.is("all", 6, () -> x.count(1));
        Due.policy(x, 5, "forbid(_,_,_)");
        Due.is("one again", 6, () -> x.count(1));
        x.drop(0);
        Due.is("one fewer", 5, () -> x.count(1));
        Due.write(x, "permit");
        Due.refused("no policy", () -> x.policy(0));
        Due.is("none came", 5, () -> x.count(1));
    }

    private static void entities() {
        Due.sentence(16, "2: ENTITIES,");
        PolicyForge x = new PolicyForge();
        for (int n = 0; n < 16; n++) {
            int many = n;
            Due.is("entities", many, () -> x.count(2));
            x.entity(15 - n, n % 3);
            x.entity(15 - n, n % 2);
        }
        Due.is("all", 16, () -> x.count(2));
        Due.refused("no more", () -> x.entity(16, 0));
        Due.is("still all", 16, () -> x.count(2));
    }

    private static void lookedAt() {
        Due.sentence(16, "3: POLICIES that were looked at in the latest ask (that fitted);");
        PolicyForge x = new PolicyForge();
        String[] behind = {"", "when{false}", "when{1}", "when{p.x}", "when{999999*999999<1}", "unless{false}"};
        for (int n = 0; n < 6; n++) {
            int many = n;
            Due.policy(x, n, "permit(_,_,@" + n + ")");
            Due.is("none was asked for this many", many == 0 ? 0 : 1, () -> x.count(3));
            x.ask(0, 0, n);
            Due.is("one fits", 1, () -> x.count(3));
        }
        x.ask(0, 0, 6);
        Due.is("none fits", 0, () -> x.count(3));
        for (int n = 0; n < 6; n++) {
            int many = n + 1;
            Due.policy(x, n, (n % 2 == 0 ? "permit" : "forbid") + "(_,_,_)" + behind[n]);
            x.ask(0, 0, 15);
            Due.is("with " + behind[n], many, () -> x.count(3));
        }
        x.drop(0);
        Due.is("a drop is no ask", 6, () -> x.count(3));
        Due.refused("nor is a refused one", () -> x.ask(0, -1, 0));
        Due.is("nor holds", true, () -> x.holds(5, 0, 0, 0));
        Due.is("the latest ask", 6, () -> x.count(3));
        x.ask(0, 0, 0);
        Due.is("the next one", 5, () -> x.count(3));
    }

    private static void tokens() {
        Due.sentence(16, "10 + i: TOKENS of POLICY i (NONE without; i 0 to 5).");
        PolicyForge x = new PolicyForge();
        for (int n = 0; n < 6; n++) {
            int i = n;
            Due.is("none " + i, PolicyForge.NONE, () -> x.count(10 + i));
            Due.policy(x, i, "permit(_,_,_)" + "when{1}".repeat(2 * i));
            Due.is("one " + i, 8 + 8 * i, () -> x.count(10 + i));
        }
        for (int n = 0; n < 6; n++) {
            int i = n;
            Due.is("still " + i, 8 + 8 * i, () -> x.count(10 + i));
            x.drop(i);
            Due.is("dropped " + i, PolicyForge.NONE, () -> x.count(10 + i));
        }
        Due.policy(x, 5, "permit(_,_,_)when{1" + "+1".repeat(40) + "}");
        Due.is("the most", 92, () -> x.count(15));
        Due.sentence(16, "`NONE = -2`: There is no such thing.");
        Due.is("NONE", -2, () -> PolicyForge.NONE);
        Due.is("tokens of none", -2, () -> new PolicyForge().count(10));
    }

    private static void others() {
        Due.sentence(16, "REFUSED for others.");
        PolicyForge x = Scene.made();
        for (int what = 4; what < 10; what++) {
            int other = what;
            Due.is("count " + what, PolicyForge.REFUSED, () -> x.count(other));
        }
        for (int what = 16; what < 32; what++) {
            int other = what;
            Due.is("count " + what, PolicyForge.REFUSED, () -> x.count(other));
        }
        for (int what : Due.NEVER) {
            Due.is("count " + what, PolicyForge.REFUSED, () -> x.count(what));
        }
        Due.is("count -10", PolicyForge.REFUSED, () -> x.count(-10));
    }
}
