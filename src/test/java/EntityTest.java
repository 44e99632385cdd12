/** Promises 6, 7, 8, 15 and the count of ENTITIES: entity, parent, set and isIn. */
public final class EntityTest {
    private static final int[] NO_ENTITIES = {-1, 16, Integer.MIN_VALUE, Integer.MAX_VALUE};

    public static void main(String[] args) {
        entities();
        parents();
        chains();
        attributes();
        wrongNumbers();
        Due.end("EntityTest");
    }

    private static void entities() {
        PolicyForge x = new PolicyForge();
        Due.is("a new entity", true, () -> x.entity(0, 2));
        Due.is("the last entity", true, () -> x.entity(15, 0));
        Due.is("two", 2, () -> x.count(2));
        Due.is("one again", false, () -> x.entity(0, 1));
        Due.is("still two", 2, () -> x.count(2));
        Due.is("what is not there is in itself", true, () -> x.isIn(9, 9));
        Due.is("and in nothing else", false, () -> x.isIn(9, 0));
        Due.is("nothing is in it", false, () -> x.isIn(0, 9));
    }

    private static void parents() {
        PolicyForge x = new PolicyForge();
        for (int e = 0; e < 5; e++) {
            x.entity(e, 0);
        }
        Due.is("a parent", true, () -> x.parent(0, 1));
        Due.is("the same parent", false, () -> x.parent(0, 1));
        Due.is("another parent", true, () -> x.parent(0, 2));
        Due.is("a parent's parent", true, () -> x.parent(1, 3));
        Due.is("two ways", true, () -> x.parent(2, 3));
        Due.is("in it by two steps", true, () -> x.isIn(0, 3));
        Due.is("not the other way", false, () -> x.isIn(3, 0));
        Due.is("not beside", false, () -> x.isIn(1, 2));
        Due.badState("its own parent", () -> x.parent(4, 4));
        Due.badState("a circle of two", () -> x.parent(1, 0));
        Due.badState("a circle of three", () -> x.parent(3, 0));
        Due.is("no circle was made", false, () -> x.isIn(3, 0));
        Due.noSuch("a parent that is not there", () -> x.parent(0, 7));
        Due.noSuch("an entity that is not there", () -> x.parent(7, 0));
        Due.noSuch("not there comes before circles", () -> x.parent(7, 7));
        Due.refused("wrong numbers come first", () -> x.parent(7, 16));
        Due.is("made anew", false, () -> x.entity(1, 2));
        Due.is("it has no parents", false, () -> x.isIn(1, 3));
        Due.is("it stays a parent", true, () -> x.isIn(0, 1));
        Due.is("the other way is left", true, () -> x.isIn(0, 3));
        Due.is("it can have one again", true, () -> x.parent(1, 3));
        x.entity(0, 0);
        Due.is("now the circle is none", true, () -> x.parent(3, 0));
        Due.is("in it by two steps again", true, () -> x.isIn(1, 0));
    }

    private static void chains() {
        PolicyForge x = new PolicyForge();
        for (int e = 0; e < 16; e++) {
            x.entity(e, e % 3);
        }
        for (int e = 0; e < 15; e++) {
            x.parent(e, e + 1);
        }
        Due.is("up the longest chain", true, () -> x.isIn(0, 15));
        Due.is("not down", false, () -> x.isIn(15, 0));
        Due.badState("the longest circle", () -> x.parent(15, 0));
        x.entity(8, 0);
        Due.is("a broken chain", false, () -> x.isIn(0, 15));
        Due.is("up to the break", true, () -> x.isIn(0, 8));
        PolicyForge y = new PolicyForge();
        for (int e = 0; e < 16; e++) {
            y.entity(e, 0);
        }
        for (int e = 15; e > 0; e--) {
            y.parent(e, e - 1);
        }
        Due.is("down the longest chain", true, () -> y.isIn(15, 0));
        Due.is("and not up", false, () -> y.isIn(0, 15));
    }

    private static void attributes() {
        PolicyForge x = new PolicyForge();
        Due.noSuch("no such entity", () -> x.set(3, 0, 0, 0));
        x.entity(3, 0);
        Due.is("missing before", 0, () -> x.set(3, 0, 1, Integer.MIN_VALUE));
        Due.is("a number before", 1, () -> x.set(3, 0, 2, -7));
        Due.is("a truth before", 2, () -> x.set(3, 0, 3, 15));
        Due.is("an entity before", 3, () -> x.set(3, 0, 0, 99));
        Due.is("missing again", 0, () -> x.set(3, 0, 3, 0));
        Due.is("others are their own", 0, () -> x.set(3, 2, 1, 1));
        Due.refused("no entity 16", () -> x.set(3, 0, 3, 16));
        Due.refused("no entity -1", () -> x.set(3, 0, 3, -1));
        Due.is("nothing changed", 3, () -> x.set(3, 0, 3, 9));
        x.entity(3, 0);
        Due.is("made anew: missing", 0, () -> x.set(3, 0, 1, 1));
        Due.is("made anew: missing, too", 0, () -> x.set(3, 2, 1, 1));
        Due.policy(x, 0, "permit(_,_,_)when{p.x==p.y}");
        x.set(3, 0, 2, 7);
        x.set(3, 1, 2, -1);
        Due.is("all but 0 are one truth", true, () -> x.holds(0, 3, 0, 0));
        x.set(3, 1, 2, 0);
        Due.is("0 is the other", false, () -> x.holds(0, 3, 0, 0));
    }

    private static void wrongNumbers() {
        PolicyForge x = new PolicyForge();
        x.entity(0, 0);
        for (int n : NO_ENTITIES) {
            Due.refused("entity " + n, () -> x.entity(n, 0));
            Due.refused("parent of " + n, () -> x.parent(n, 0));
            Due.refused("parent " + n, () -> x.parent(0, n));
            Due.refused("set of " + n, () -> x.set(n, 0, 1, 0));
            Due.refused("isIn of " + n, () -> x.isIn(n, 0));
            Due.refused("isIn " + n, () -> x.isIn(0, n));
        }
        Due.refused("kind -1", () -> x.entity(0, -1));
        Due.refused("kind 3", () -> x.entity(1, 3));
        Due.is("not made", 1, () -> x.count(2));
        Due.refused("attribute -1", () -> x.set(0, -1, 1, 0));
        Due.refused("attribute 3", () -> x.set(0, 3, 1, 0));
        Due.refused("sort -1", () -> x.set(0, 0, -1, 0));
        Due.refused("sort 4", () -> x.set(0, 0, 4, 0));
        Due.refused("wrong numbers before no such entity", () -> x.set(5, 0, 3, 16));
    }
}
