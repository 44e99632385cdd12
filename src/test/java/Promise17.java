/** The boundary cases of promise 17: order and limits. */
final class Promise17 {
    private static final String HEAD = "permit(_,_,_)";

    private Promise17() {
    }

    static void run() {
        textStays();
        textIsEmpty();
        noTruths();
    }

    private static void textStays() {
        Due.sentence(17, "policy: if i is not 0 to 5, THE TEXT stays as it is");
        for (int n : new int[] {6, -1, 7, Integer.MIN_VALUE, Integer.MAX_VALUE}) {
            PolicyForge x = new PolicyForge();
            Due.refused("an empty text, " + n, () -> x.policy(n));
            Due.is("still empty", 0, () -> x.count(0));
            Due.write(x, "permit(_,_");
            Due.refused("no policy, " + n, () -> x.policy(n));
            Due.is("its characters", 10, () -> x.count(0));
            Due.write(x, ",_)");
            Due.refused("a policy, " + n, () -> x.policy(n));
            Due.is("its characters, too", 13, () -> x.count(0));
            Due.is("it goes on", 20, () -> x.text(Due.packed("when{1}")));
            Due.is("the whole text", 12, () -> x.policy(5));
            Due.write(x, " ".repeat(100));
            Due.refused("a full text, " + n, () -> x.policy(n));
            Due.badState("still full", () -> x.text(' '));
        }
    }

    private static void textIsEmpty() {
        Due.sentence(17, "(it is empty behind a policy with i as said, also if it was no POLICY).");
        for (int n = 0; n < 6; n++) {
            int i = n;
            PolicyForge x = new PolicyForge();
            Due.write(x, HEAD);
            Due.is("a policy", 8, () -> x.policy(i));
            Due.is("empty", 0, () -> x.count(0));
            Due.write(x, HEAD + "when{");
            Due.refused("no policy", () -> x.policy(i));
            Due.is("empty, too", 0, () -> x.count(0));
            Due.write(x, "1}");
            Due.refused("it does not go on", () -> x.policy(i));
            Due.is("at its first token", 0, x::where);
            Due.write(x, " ".repeat(100));
            Due.refused("a full text", () -> x.policy(i));
            Due.is("there is room again", 8, () -> x.text(Due.packed("permit(_")));
            Due.write(x, ",_,_)");
            Due.is("a policy again", 8, () -> x.policy(i));
        }
    }

    private static void noTruths() {
        Due.sentence(17, "holds, ask: an EXPR behind when or unless that is worth no TRUTH is an ERROR TYPE.");
        for (String expr : new String[] {"0", "1", "-1", "1+1", "p", "r", "@0", "p.x", "p.z"}) {
            for (String when : new String[] {"when{", "unless{", "when{true}unless{", "unless{false}when{"}) {
                for (String effect : new String[] {"permit", "forbid"}) {
                    noTruth(effect + "(_,_,_)" + when + expr + "}");
                }
            }
        }
    }

    private static void noTruth(String text) {
        PolicyForge x = new PolicyForge();
        x.entity(0, 0);
        x.set(0, 0, 1, 1);
        x.set(0, 2, 3, 0);
        Due.policy(x, 0, text);
        Due.policy(x, 1, "permit(@0,_,@0)");
        Due.badType("holds of " + text, () -> x.holds(0, 0, 0, 0));
        Due.is("it is left out: " + text, true, () -> x.ask(0, 0, 0));
        Due.is("told of " + text, 4, () -> x.told(0));
        x.drop(1);
        Due.is("it permits nothing: " + text, false, () -> x.ask(0, 0, 0));
        Due.is("it was looked at: " + text, 1, () -> x.count(3));
    }
}
