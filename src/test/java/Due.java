import java.util.concurrent.Callable;

/** What the project's tests share: they say what is due, feed texts, and end with the exit code. */
final class Due {
    private static int asked = 0;
    private static int wrong = 0;

    private Due() {
    }

    /** The answer of a call: an exception counts as its class's plain name. */
    static Object answer(Callable<Object> call) {
        try {
            return call.call();
        } catch (Exception e) {
            return e.getClass().getName();
        }
    }

    static void is(String what, Object want, Callable<Object> call) {
        Object got = answer(call);
        asked++;
        if (!want.equals(got)) {
            wrong++;
            System.out.println(what + " answered " + got + ", due is " + want);
        }
    }

    static void refused(String what, Callable<Object> call) {
        is(what, "java.lang.IllegalArgumentException", call);
    }

    static void badState(String what, Callable<Object> call) {
        is(what, "java.lang.IllegalStateException", call);
    }

    static void noSuch(String what, Callable<Object> call) {
        is(what, "java.util.NoSuchElementException", call);
    }

    static void badType(String what, Callable<Object> call) {
        is(what, "java.lang.UnsupportedOperationException", call);
    }

    static void overflow(String what, Callable<Object> call) {
        is(what, "java.lang.ArithmeticException", call);
    }

    /** Up to eight characters as a number for text, the first one highest. */
    static long packed(String some) {
        long w = 0;
        for (int i = 0; i < some.length(); i++) {
            w = w << 8 | some.charAt(i);
        }
        return w;
    }

    static void write(PolicyForge x, String text) {
        for (int at = 0; at < text.length(); at += 8) {
            x.text(packed(text.substring(at, Math.min(text.length(), at + 8))));
        }
    }

    /** Makes a policy of a text that is one. */
    static void policy(PolicyForge x, int i, String text) {
        write(x, text);
        is("policy " + text, NONE_FOUND, () -> {
            x.policy(i);
            return x.where();
        });
    }

    /** A text that is no policy, and where that is seen. */
    static void fault(String text, int place) {
        PolicyForge x = new PolicyForge();
        write(x, text);
        refused("policy of " + text, () -> x.policy(0));
        is("where of " + text, place, x::where);
        is("characters behind " + text, 0, () -> x.count(0));
        is("tokens behind " + text, PolicyForge.NONE, () -> x.count(10));
    }

    static void end(String name) {
        System.out.println(name + ": " + asked + " answers, " + wrong + " not as due");
        if (wrong != 0 || asked == 0) {
            System.exit(1);
        }
    }

    private static final Object NONE_FOUND = PolicyForge.NONE;
}
