import java.util.Arrays;
import java.util.concurrent.Callable;

/**
 * All promises over runs of 512 calls that are made by chance (the same ones each time): every
 * answer is compared with that of Model, whatever stood before it.
 */
public final class RunTest {
    private static final int RUNS = 300;
    private static final int CALLS = 512;
    private static final int MOST_CALLS_OF_A_TURN = 2;
    private static final String[] BITS = {
        "permit", "forbid", "when", "unless", "in", "has", "true", "false", "p", "r", "x", "y", "z", "0", "9", "10",
        "000009", "999999", "1234567", "@0", "@15", "@16", "@", "@007", "(", ")", "{", "}", ",", ".", "_", "+", "-",
        "*", "!", "==", "!=", "<", "<=", "&&", "||", "=", "&", "|", ">", "px", " ", "$", "P", "((((((((", "!!!!!!!!",
    };

    private final int run;
    private final Chance chance;
    private final PolicyForge forge = new PolicyForge();
    private final Model model = new Model();
    private final int[] answers;
    private String coming = "";
    private int calls = 0;

    private RunTest(int run, Chance chance, int[] answers) {
        this.run = run;
        this.chance = chance;
        this.answers = answers;
    }

    public static void main(String[] args) {
        Chance chance = new Chance(20261116L);
        int[] answers = new int[4];
        for (int i = 0; i < RUNS; i++) {
            new RunTest(i, chance, answers).go();
        }
        System.out.println("RunTest saw policies, faults, questions, held: " + Arrays.toString(answers));
        Due.is("enough of each was seen", true, () -> Arrays.stream(answers).min().getAsInt() > 500);
        Due.end("RunTest");
    }

    private void go() {
        while (calls <= CALLS - MOST_CALLS_OF_A_TURN) {
            if (chance.in100(55)) {
                write();
            } else {
                call();
            }
        }
    }

    private void due(String what, Object want, Callable<Object> call) {
        calls++;
        Due.is("run " + run + ", call " + calls + ": " + what, want, call);
    }

    /** A good number, or now and then one that is none. */
    private int number(int bound) {
        return chance.in100(98) ? chance.next(bound)
                : chance.one(-1, bound, bound + 1, Integer.MIN_VALUE, Integer.MAX_VALUE, 256, 1 << 16);
    }

    /** Mostly one of the first entities, so that they meet. */
    private int entity() {
        return chance.in100(90) ? chance.next(6) : number(16);
    }

    /** The next characters of a text, or the policy behind it. */
    private void write() {
        if (coming.isEmpty()) {
            policy();
            coming = newText();
            return;
        }
        int many = Math.min(coming.length(), chance.in100(70) ? 8 : 1 + chance.next(8));
        long word = spread(coming.substring(0, many));
        coming = coming.substring(many);
        if (chance.in100(2)) {
            word = chance.word() & chance.word();
        }
        long fed = word;
        due("text " + fed, model.text(fed), () -> forge.text(fed));
    }

    /** The characters of a word with zeros among them, where there is room. */
    private long spread(String some) {
        int room = 8 - some.length();
        long word = 0;
        for (char c : some.toCharArray()) {
            int gap = room > 0 && chance.in100(30) ? 1 + chance.next(room) : 0;
            room -= gap;
            word = word << 8 * (gap + 1) | c;
        }
        return word;
    }

    private void policy() {
        int i = number(6);
        Object due = model.policy(i);
        due("policy " + i, due, () -> forge.policy(i));
        due("where", model.where(), forge::where);
        answers[due instanceof Integer ? 0 : 1]++;
    }

    private String newText() {
        String text = chance.in100(90) ? new Writer(chance).text : tall();
        int changes = chance.in100(65) ? 0 : 1 + chance.next(3);
        for (int i = 0; i < changes; i++) {
            text = changed(text);
        }
        return text;
    }

    /** A tree that is about as tall as a text allows. */
    private String tall() {
        StringBuilder text = new StringBuilder("permit(_,_,_)when{");
        text.append(chance.one("-", "!").repeat(chance.next(8))).append(chance.one("1", "p", "r.x", "(p has z)"));
        String step = chance.one("+1", "*1", "-7", ".z", "&&true", "||p.y");
        String end = chance.one("<2}", "==p}", "}", ".x}");
        while (text.length() + step.length() + end.length() <= 100) {
            text.append(step);
        }
        return text.append(end).toString();
    }

    private String changed(String text) {
        int at = chance.next(text.length() + 1);
        int end = Math.min(text.length(), at + chance.next(3));
        switch (chance.next(4)) {
            case 0:
                return text.substring(0, at) + text.substring(end);
            case 1:
                return text.substring(0, at);
            case 2:
                return text.substring(0, at) + (char) (32 + chance.next(95)) + text.substring(end);
            default:
                return text.substring(0, at) + chance.one(BITS) + text.substring(end);
        }
    }

    private void call() {
        switch (chance.next(11)) {
            case 0:
                makeEntity();
                break;
            case 1:
                giveParent();
                break;
            case 2:
                giveAttribute();
                break;
            case 3:
                declare();
                break;
            case 4:
                check();
                break;
            case 5:
                holds();
                break;
            case 6:
                ask();
                break;
            case 7:
                count();
                break;
            case 8:
                lookUp();
                break;
            default:
                holds();
                break;
        }
    }

    private void makeEntity() {
        int e = chance.in100(50) ? 6 + chance.next(10) : entity();
        int kind = number(3);
        due("entity " + e + " " + kind, model.entity(e, kind), () -> forge.entity(e, kind));
    }

    private void giveParent() {
        int e = entity();
        int f = entity();
        due("parent " + e + " " + f, model.parent(e, f), () -> forge.parent(e, f));
    }

    private void giveAttribute() {
        int e = entity();
        int a = number(3);
        int sort = chance.in100(60) ? a + 1 : number(4);
        int v = sort == 3 ? entity() : chance.one(0, 1, 2, -1, 7, 46341, Integer.MIN_VALUE, Integer.MAX_VALUE);
        due("set " + e + " " + a + " " + sort + " " + v, model.set(e, a, sort, v), () -> forge.set(e, a, sort, v));
    }

    /** Mostly alike over kinds, so that some texts are right. */
    private void declare() {
        int kind = number(3);
        int a = number(3);
        int sort = chance.in100(80) ? a + 1 : number(4);
        int of = chance.in100(80) ? 1 : number(3);
        boolean sure = chance.in100(70);
        due("declare " + kind + " " + a, model.declare(kind, a, sort, of, sure), () -> {
            forge.declare(kind, a, sort, of, sure);
            return Model.NOTHING;
        });
    }

    private void check() {
        int i = number(6);
        due("check " + i, model.check(i), () -> forge.check(i));
    }

    private void holds() {
        int i = number(6);
        int p = entity();
        int action = chance.in100(80) ? chance.next(3) : number(10);
        int r = entity();
        Object due = model.holds(i, p, action, r);
        due("holds " + i + " " + p + " " + action + " " + r, due, () -> forge.holds(i, p, action, r));
        answers[2]++;
        answers[3] += due.equals(true) ? 1 : 0;
    }

    private void ask() {
        int p = entity();
        int action = chance.in100(80) ? chance.next(3) : number(10);
        int r = entity();
        due("ask " + p + " " + action + " " + r, model.ask(p, action, r), () -> forge.ask(p, action, r));
    }

    private void count() {
        int what = chance.in100(50) ? number(4) : 9 + number(8);
        int i = number(6);
        due("count " + what, model.count(what), () -> forge.count(what));
        due("told " + i, model.told(i), () -> forge.told(i));
    }

    private void lookUp() {
        int e = entity();
        int f = entity();
        int i = number(6);
        if (chance.in100(10)) {
            due("drop " + i, model.drop(i), () -> forge.drop(i));
        } else if (chance.in100(50)) {
            due("conforms " + e, model.conforms(e), () -> forge.conforms(e));
        } else {
            due("isIn " + e + " " + f, model.isIn(e, f), () -> forge.isIn(e, f));
        }
        due("where", model.where(), forge::where);
    }
}
