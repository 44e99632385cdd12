/** The boundary cases of promise 13: ask. */
final class Promise13 {
    private Promise13() {
    }

    static void run() {
        errorsLeftOut();
        permitsAndForbids();
        wrongNumbers();
    }

    private static void errorsLeftOut() {
        Due.sentence(13, "All POLICIES are asked, those with an ERROR being left out:");
        String[] wrong = {"when{1}", "when{p.y}", "when{999999*999999<1}", "unless{p}", "unless{p.x}", "unless{-p==1}"};
        for (int n = 0; n < 6; n++) {
            int i = n;
            PolicyForge x = new PolicyForge();
            Due.is("none", false, () -> x.ask(0, 0, 0));
            for (int k = 0; k < 6; k++) {
                Due.policy(x, k, "forbid(_,_,_)" + wrong[k]);
            }
            Due.is("errors alone permit nothing", false, () -> x.ask(0, 0, 0));
            Due.policy(x, i, "permit(_,_,_)");
            Due.is(i + " permits", true, () -> x.ask(0, 0, 0));
            for (int k = 0; k < 6; k++) {
                Due.policy(x, k, "permit(_,_,_)" + wrong[k]);
            }
            Due.is("what would permit has errors", false, () -> x.ask(0, 0, 0));
            Due.policy(x, i, "permit(_,_,_)");
            Due.is(i + " permits alone", true, () -> x.ask(0, 0, 0));
            Due.is("all were looked at", 6, () -> x.count(3));
        }
    }

    private static void permitsAndForbids() {
        Due.sentence(13, "true if one that permits HOLDS, and none that forbids.");
        for (int n = 0; n < 36; n++) {
            int permits = n / 6;
            int forbids = n % 6;
            PolicyForge x = new PolicyForge();
            Due.policy(x, permits, "permit(@1,_,_)");
            Due.is("one permits", true, () -> x.ask(1, 0, 0));
            Due.is("it does not fit", false, () -> x.ask(2, 0, 0));
            if (permits != forbids) {
                Due.policy(x, forbids, "forbid(_,1,_)");
                Due.is("none that forbids holds", true, () -> x.ask(1, 0, 0));
                Due.is("one that forbids holds", false, () -> x.ask(1, 1, 0));
                Due.is("one that forbids holds alone", false, () -> x.ask(2, 1, 0));
                x.drop(permits);
                Due.is("none permits", false, () -> x.ask(1, 0, 0));
            }
        }
        PolicyForge all = new PolicyForge();
        for (int i = 0; i < 5; i++) {
            Due.policy(all, i, "permit(_,_,_)");
        }
        Due.is("five permit", true, () -> all.ask(15, 9, 15));
        Due.policy(all, 5, "forbid(_,_,_)unless{false}");
        Due.is("and one forbids", false, () -> all.ask(15, 9, 15));
        Due.policy(all, 5, "forbid(_,_,_)when{false}");
        Due.is("and one does not", true, () -> all.ask(15, 9, 15));
    }

    private static void wrongNumbers() {
        Due.sentence(13, "IllegalArgumentException if a number is not as said.");
        PolicyForge x = Scene.made();
        Scene.refused(x, "p 16", () -> x.ask(16, 0, 0));
        Scene.refused(x, "r 16", () -> x.ask(0, 0, 16));
        PolicyForge y = Scene.made();
        Scene.refused(y, "action 10", () -> y.ask(0, 10, 0));
        for (int n : Due.NEVER) {
            Due.refused("p " + n, () -> y.ask(n, 0, 0));
            Due.refused("action " + n, () -> y.ask(0, n, 0));
            Due.refused("r " + n, () -> y.ask(0, 0, n));
        }
        Due.is("the least numbers", true, () -> y.ask(0, 0, 0));
        Due.is("the greatest numbers", false, () -> y.ask(15, 9, 15));
    }
}
