import java.util.ArrayList;
import java.util.List;
import java.util.concurrent.Callable;

/** What the project's tests share: they say what is due, feed texts, and end with the exit code. */
final class Due {
    /** Numbers that are none of anything, whatever is counted from 0. */
    static final int[] NEVER = {-1, Integer.MIN_VALUE, Integer.MAX_VALUE, -256, 256};

    private static final Object NONE_FOUND = PolicyForge.NONE;
    private static final List<Quote> QUOTES = new ArrayList<>();
    private static int asked = 0;
    private static int wrong = 0;

    private Due() {
    }

    /** The answer of a call: an exception counts as its class's plain name. */
    static Object answer(Callable<Object> call) {
        try {
            return call.call();
        } catch (Exception e) {
            return e.getClass().getName();
        }
    }

    static void is(String what, Object want, Callable<Object> call) {
        Object got = answer(call);
        asked++;
        if (!want.equals(got)) {
            wrong++;
            String sentence = QUOTES.isEmpty() ? "" : QUOTES.get(QUOTES.size() - 1) + ": ";
            System.out.println(sentence + what + " answered " + got + ", due is " + want);
        }
    }

    /** A sentence of the document, or a part of one, and the number of a promise that leans on it. */
    static final class Quote {
        final int promise;
        final String words;
        private final int askedBefore = asked;

        Quote(int promise, String words) {
            this.promise = promise;
            this.words = words;
        }

        @Override
        public String toString() {
            return "promise " + promise + " \"" + words + "\"";
        }
    }

    /** The answers that are due from here on are those that this sentence asks for. */
    static void sentence(int promise, String words) {
        requireAnswers();
        QUOTES.add(new Quote(promise, words));
    }

    static List<Quote> quotes() {
        requireAnswers();
        return QUOTES;
    }

    private static void requireAnswers() {
        if (!QUOTES.isEmpty() && QUOTES.get(QUOTES.size() - 1).askedBefore == asked) {
            wrong++;
            System.out.println(QUOTES.get(QUOTES.size() - 1) + " has no test");
        }
    }

    static void refused(String what, Callable<Object> call) {
        is(what, "java.lang.IllegalArgumentException", call);
    }

    static void badState(String what, Callable<Object> call) {
        is(what, "java.lang.IllegalStateException", call);
    }

    static void noSuch(String what, Callable<Object> call) {
        is(what, "java.util.NoSuchElementException", call);
    }

    static void badType(String what, Callable<Object> call) {
        is(what, "java.lang.UnsupportedOperationException", call);
    }

    static void overflow(String what, Callable<Object> call) {
        is(what, "java.lang.ArithmeticException", call);
    }

    /** Up to eight characters as a number for text, the first one highest. */
    static long packed(String some) {
        long w = 0;
        for (int i = 0; i < some.length(); i++) {
            w = w << 8 | some.charAt(i);
        }
        return w;
    }

    static void write(PolicyForge x, String text) {
        for (int at = 0; at < text.length(); at += 8) {
            x.text(packed(text.substring(at, Math.min(text.length(), at + 8))));
        }
    }

    /** Makes a policy of a text that is one. */
    static void policy(PolicyForge x, int i, String text) {
        write(x, text);
        is("policy " + text, NONE_FOUND, () -> {
            x.policy(i);
            return x.where();
        });
    }

    /** A text that is no policy, and where that is seen. */
    static void fault(String text, int place) {
        PolicyForge x = new PolicyForge();
        write(x, text);
        refused("policy of " + text, () -> x.policy(0));
        is("where of " + text, place, x::where);
        is("characters behind " + text, 0, () -> x.count(0));
        is("tokens behind " + text, PolicyForge.NONE, () -> x.count(10));
    }

    /** The same with a ^ before the token, the character or the end where that is seen. */
    static void fault(String marked) {
        fault(marked.replace("^", ""), marked.indexOf('^'));
    }

    /** A text that is a policy of so many tokens. */
    static void tokens(int tokens, String text) {
        PolicyForge x = new PolicyForge();
        write(x, text);
        is("policy of " + text, tokens, () -> x.policy(5));
        is("where of " + text, PolicyForge.NONE, x::where);
        is("tokens of " + text, tokens, () -> x.count(15));
        is("characters behind " + text, 0, () -> x.count(0));
    }

    static void end(String name) {
        System.out.println(name + ": " + asked + " answers, " + wrong + " not as due");
        if (wrong != 0 || asked == 0) {
            System.exit(1);
        }
    }
}
