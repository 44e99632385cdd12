/** Promises 13, 14 and 16: ask, told and count. */
public final class AskTest {
    public static void main(String[] args) {
        permitsAndForbids();
        tellsEach();
        keepsTheLatest();
        wrongNumbers();
        counts();
        Due.end("AskTest");
    }

    private static void told(PolicyForge x, int... want) {
        for (int i = 0; i < want.length; i++) {
            int policy = i;
            Due.is("told " + i, want[i], () -> x.told(policy));
        }
    }

    private static void permitsAndForbids() {
        PolicyForge x = new PolicyForge();
        Due.is("no policies", false, () -> x.ask(0, 0, 0));
        Due.policy(x, 3, "permit(@0,_,_)");
        Due.is("one permits", true, () -> x.ask(0, 0, 0));
        Due.is("one permits another", false, () -> x.ask(1, 0, 0));
        Due.policy(x, 0, "forbid(_,1,_)");
        Due.is("one forbids", false, () -> x.ask(0, 1, 0));
        Due.is("one forbids another action", true, () -> x.ask(0, 2, 0));
        Due.policy(x, 5, "forbid(_,_,@7)");
        Due.is("a later one forbids", false, () -> x.ask(0, 2, 7));
        Due.policy(x, 4, "permit(_,_,_)");
        Due.is("two permit, one forbids", false, () -> x.ask(0, 2, 7));
        Due.is("none forbids", true, () -> x.ask(9, 9, 9));
        x.drop(3);
        x.drop(4);
        Due.is("none permits", false, () -> x.ask(0, 2, 0));
        Due.is("forbidding alone permits nothing", false, () -> x.ask(0, 1, 0));
    }

    private static PolicyForge oneOfEach() {
        PolicyForge x = new PolicyForge();
        x.entity(0, 0);
        x.set(0, 0, 1, 999999);
        Due.policy(x, 0, "permit(@1,_,_)");
        Due.policy(x, 1, "permit(_,_,_)when{p.x<0}");
        Due.policy(x, 2, "permit(_,_,_)unless{p.x<0}");
        Due.policy(x, 3, "forbid(_,_,_)when{p.x}");
        Due.policy(x, 4, "forbid(_,_,_)when{p.y}");
        Due.policy(x, 5, "forbid(_,_,_)when{p.x*p.x<0}");
        return x;
    }

    private static void tellsEach() {
        PolicyForge x = oneOfEach();
        told(x, 0, 0, 0, 0, 0, 0);
        Due.is("those with an error are left out", true, () -> x.ask(0, 0, 0));
        told(x, 1, 2, 3, 4, 5, 6);
        Due.is("looked at", 5, () -> x.count(3));
        Due.is("all are missing", false, () -> x.ask(2, 0, 0));
        told(x, 1, 5, 5, 5, 5, 5);
        Due.is("the first one alone", true, () -> x.ask(1, 0, 0));
        told(x, 3, 5, 5, 5, 5, 5);
        Due.is("looked at all", 6, () -> x.count(3));
        Due.policy(x, 1, "forbid(_,_,_)when{false&&p.y}");
        Due.policy(x, 3, "permit(_,_,_)unless{1}");
        Due.is("again", true, () -> x.ask(0, 0, 0));
        told(x, 1, 2, 3, 4, 5, 6);
    }

    private static void keepsTheLatest() {
        PolicyForge x = oneOfEach();
        x.ask(0, 0, 0);
        x.drop(2);
        Due.policy(x, 0, "forbid(_,_,_)");
        Due.write(x, "permit");
        Due.refused("no policy", () -> x.policy(3));
        Due.is("holds does not tell", true, () -> x.holds(0, 0, 0, 0));
        Due.refused("a refused ask", () -> x.ask(16, 0, 0));
        told(x, 1, 2, 3, 4, 5, 6);
        Due.is("looked at in the latest", 5, () -> x.count(3));
        Due.is("the next one", false, () -> x.ask(0, 0, 0));
        told(x, 3, 2, 0, 4, 5, 6);
        Due.is("looked at in the next", 5, () -> x.count(3));
        for (int i = 0; i < 6; i++) {
            x.drop(i);
        }
        Due.is("none is there", false, () -> x.ask(0, 0, 0));
        told(x, 0, 0, 0, 0, 0, 0);
        Due.is("none looked at", 0, () -> x.count(3));
    }

    private static void wrongNumbers() {
        PolicyForge x = oneOfEach();
        for (int n : new int[] {-1, 16, Integer.MIN_VALUE, Integer.MAX_VALUE}) {
            Due.refused("p " + n, () -> x.ask(n, 0, 0));
            Due.refused("action " + n, () -> x.ask(0, n, 0));
            Due.refused("r " + n, () -> x.ask(0, 0, n));
            Due.is("told " + n, PolicyForge.REFUSED, () -> x.told(n));
        }
        Due.refused("action 10", () -> x.ask(0, 10, 0));
        Due.is("told 6", PolicyForge.REFUSED, () -> x.told(6));
        told(x, 0, 0, 0, 0, 0, 0);
        Due.is("the last numbers", false, () -> x.ask(15, 9, 15));
    }

    private static void counts() {
        PolicyForge x = oneOfEach();
        Due.write(x, "permit(");
        Due.is("characters", 7, () -> x.count(0));
        Due.is("policies", 6, () -> x.count(1));
        Due.is("entities", 1, () -> x.count(2));
        Due.is("looked at", 0, () -> x.count(3));
        int[] tokens = {8, 16, 16, 14, 14, 20};
        for (int i = 0; i < 6; i++) {
            int policy = i;
            Due.is("tokens of " + i, tokens[i], () -> x.count(10 + policy));
        }
        x.drop(5);
        Due.is("tokens of none", PolicyForge.NONE, () -> x.count(15));
        for (int n : new int[] {-1, 4, 5, 9, 16, 17, Integer.MIN_VALUE, Integer.MAX_VALUE}) {
            Due.is("count " + n, PolicyForge.REFUSED, () -> x.count(n));
        }
    }
}
