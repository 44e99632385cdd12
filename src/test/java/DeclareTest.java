/** Promises 9 and 10: declare and conforms. */
public final class DeclareTest {
    public static void main(String[] args) {
        sorts();
        entitiesOfKinds();
        wrongNumbers();
        Due.end("DeclareTest");
    }

    private static Object declare(PolicyForge x, int kind, int a, int sort, int of) {
        x.declare(kind, a, sort, of, true);
        return "declared";
    }

    private static void sorts() {
        PolicyForge x = new PolicyForge();
        x.declare(1, 1, 1, 0, true);
        Due.is("not there", false, () -> x.conforms(4));
        x.entity(4, 1);
        Due.is("sure and missing", false, () -> x.conforms(4));
        x.set(4, 1, 1, 0);
        Due.is("a number", true, () -> x.conforms(4));
        x.set(4, 1, 2, 1);
        Due.is("a truth for a number", false, () -> x.conforms(4));
        x.set(4, 1, 3, 4);
        Due.is("an entity for a number", false, () -> x.conforms(4));
        x.declare(1, 1, 2, 0, false);
        Due.is("an entity for a truth", false, () -> x.conforms(4));
        x.set(4, 1, 0, 0);
        Due.is("not sure and missing", true, () -> x.conforms(4));
        x.set(4, 1, 2, 0);
        Due.is("a truth", true, () -> x.conforms(4));
        x.set(4, 0, 1, 0);
        Due.is("one that is not declared", false, () -> x.conforms(4));
        x.set(4, 0, 0, 0);
        x.declare(1, 1, 0, 0, true);
        Due.is("nothing declared any more", false, () -> x.conforms(4));
        x.set(4, 1, 0, 0);
        Due.is("missing as declared", true, () -> x.conforms(4));
        x.declare(0, 1, 1, 0, true);
        x.declare(2, 1, 1, 0, true);
        Due.is("other kinds do not matter", true, () -> x.conforms(4));
        x.entity(4, 2);
        Due.is("another kind", false, () -> x.conforms(4));
    }

    private static void entitiesOfKinds() {
        PolicyForge x = new PolicyForge();
        x.entity(0, 0);
        x.set(0, 2, 3, 1);
        x.declare(0, 2, 3, 2, true);
        Due.is("one that is not there", false, () -> x.conforms(0));
        x.entity(1, 1);
        Due.is("one of another kind", false, () -> x.conforms(0));
        x.entity(1, 2);
        Due.is("one of that kind", true, () -> x.conforms(0));
        x.declare(0, 2, 3, 0, false);
        Due.is("another kind is declared", false, () -> x.conforms(0));
        x.set(0, 2, 3, 0);
        Due.is("itself", true, () -> x.conforms(0));
        x.set(0, 2, 1, 0);
        Due.is("a number for an entity", false, () -> x.conforms(0));
        x.set(0, 2, 0, 0);
        Due.is("not sure and missing", true, () -> x.conforms(0));
    }

    private static void wrongNumbers() {
        PolicyForge x = new PolicyForge();
        Due.refused("kind -1", () -> declare(x, -1, 0, 1, 0));
        Due.refused("kind 3", () -> declare(x, 3, 0, 1, 0));
        Due.refused("attribute -1", () -> declare(x, 0, -1, 1, 0));
        Due.refused("attribute 3", () -> declare(x, 0, 3, 1, 0));
        Due.refused("sort -1", () -> declare(x, 0, 0, -1, 0));
        Due.refused("sort 4", () -> declare(x, 0, 0, 4, 0));
        Due.refused("an entity of kind 3", () -> declare(x, 0, 0, 3, 3));
        Due.refused("an entity of kind -1", () -> declare(x, 0, 0, 3, -1));
        x.entity(0, 0);
        Due.is("nothing was declared", true, () -> x.conforms(0));
        Due.is("of is not looked at for 0", "declared", () -> declare(x, 0, 0, 0, -9));
        Due.is("of is not looked at for 2", "declared", () -> declare(x, 0, 0, 2, 77));
        Due.is("of is not looked at for 1", "declared", () -> declare(x, 0, 0, 1, 3));
        Due.is("it was declared", false, () -> x.conforms(0));
        for (int n : new int[] {-1, 16, Integer.MIN_VALUE, Integer.MAX_VALUE}) {
            Due.refused("conforms " + n, () -> x.conforms(n));
        }
    }
}
