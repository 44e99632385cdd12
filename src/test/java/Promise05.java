/** The boundary cases of promise 5: drop. */
final class Promise05 {
    private Promise05() {
    }

    static void run() {
        dropped();
        wrongNumbers();
    }

    private static PolicyForge full() {
        PolicyForge x = new PolicyForge();
        for (int i = 0; i < 6; i++) {
            Due.policy(x, i, "permit(@" + i + ",_,_)");
        }
        return x;
    }

    private static void dropped() {
        Due.sentence(5, "POLICY i is there no more: whether it was.");
        PolicyForge x = full();
        for (int n = 0; n < 6; n++) {
            int i = n;
            Due.is("it permits " + i, true, () -> x.ask(i, 0, 0));
            Due.is("drop " + i, true, () -> x.drop(i));
            Due.is("drop " + i + " again", false, () -> x.drop(i));
            Due.is("how many are left", 5 - i, () -> x.count(1));
            Due.is("tokens", PolicyForge.NONE, () -> x.count(10 + i));
            Due.badState("holds", () -> x.holds(i, i, 0, 0));
            Due.noSuch("check", () -> x.check(i));
            Due.is("it permits no more", false, () -> x.ask(i, 0, 0));
            Due.is("told", 0, () -> x.told(i));
        }
        Due.policy(x, 3, "permit(@7,_,_)");
        Due.is("there again", 1, () -> x.count(1));
        Due.is("drop what is there again", true, () -> x.drop(3));
        Due.write(x, "permit(");
        Due.is("the text stays", 7, () -> x.count(0));
        Due.is("drop of none", false, () -> x.drop(5));
        Due.is("the text still stays", 7, () -> x.count(0));
    }

    private static void wrongNumbers() {
        Due.sentence(5, "IllegalArgumentException if i is not 0 to 5.");
        PolicyForge x = full();
        Due.refused("drop 6", () -> x.drop(6));
        for (int n : Due.NEVER) {
            Due.refused("drop " + n, () -> x.drop(n));
        }
        Due.is("all are there", 6, () -> x.count(1));
        Due.is("0 is as said", true, () -> x.drop(0));
        Due.is("5 is as said", true, () -> x.drop(5));
        PolicyForge scene = Scene.made();
        Scene.refused(scene, "drop 6", () -> scene.drop(6));
        Scene.refused(scene, "drop -1", () -> scene.drop(-1));
    }
}
