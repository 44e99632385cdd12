import java.util.concurrent.Callable;

/** An object with something of everything in it, to see that a refused call leaves it as it was. */
final class Scene {
    private Scene() {
    }

    /** ENTITIES 0 to 3, POLICIES 0 to 4, a pending TEXT of 96 characters, something DECLARED and asked. */
    static PolicyForge made() {
        PolicyForge x = new PolicyForge();
        for (int e = 0; e < 4; e++) {
            x.entity(e, e % 3);
        }
        x.parent(0, 1);
        x.parent(1, 2);
        x.set(0, 0, 1, Integer.MAX_VALUE);
        x.set(0, 1, 2, 1);
        x.set(0, 2, 3, 1);
        x.set(2, 0, 1, 7);
        x.declare(0, 0, 1, 0, true);
        x.declare(0, 1, 2, 0, false);
        x.declare(0, 2, 3, 1, true);
        x.declare(2, 0, 1, 0, true);
        Due.policy(x, 0, "permit(in @1,_,_)when{p.y}");
        Due.policy(x, 1, "permit(@0,_,_)when{0<p.x+1}");
        Due.policy(x, 2, "forbid(_,_,_)when{r.z==p}");
        Due.policy(x, 3, "forbid(_,3,_)when{p.x}");
        Due.policy(x, 4, "permit(@0,_,_)when{p.x<1||p.z==@1}");
        x.ask(0, 3, 2);
        Due.write(x, " ".repeat(96));
        return x;
    }

    /** All that can be seen without a change; the calls are few enough for one object. */
    private static String seen(PolicyForge x) {
        StringBuilder all = new StringBuilder();
        all.append("where ").append(x.where()).append(" count");
        for (int what = -1; what <= 16; what++) {
            all.append(' ').append(x.count(what));
        }
        all.append(" told");
        for (int i = -1; i <= 6; i++) {
            all.append(' ').append(x.told(i));
        }
        for (int i = 0; i < 6; i++) {
            int policy = i;
            all.append(" check ").append(Due.answer(() -> x.check(policy)));
            all.append(" holds ").append(Due.answer(() -> x.holds(policy, 0, 3, 0)));
        }
        for (int e = 0; e < 16; e++) {
            all.append(x.conforms(e) ? " conforms" : " not");
        }
        for (int pair = 0; pair < 36; pair++) {
            all.append(x.isIn(pair / 6, pair % 6) ? '+' : '-');
        }
        return all.toString();
    }

    /** A call that is to throw that, and to change nothing. */
    static void unchanged(PolicyForge x, String what, String thrown, Callable<Object> call) {
        String before = seen(x);
        Due.is(what, thrown, call);
        Due.is("all behind " + what, before, () -> seen(x));
    }

    static void refused(PolicyForge x, String what, Callable<Object> call) {
        unchanged(x, what, "java.lang.IllegalArgumentException", call);
    }
}
