/** The boundary cases of promise 8: set. */
final class Promise08 {
    private Promise08() {
    }

    static void run() {
        attributes();
        becomes();
        theSortThatItHad();
        wrongNumbers();
        notThere();
    }

    private static void holds(PolicyForge x, int e, String expr, boolean want) {
        Due.policy(x, 0, "permit(_,_,_)when{" + expr + "}");
        Due.is(expr, want, () -> x.holds(0, e, 0, 0));
    }

    private static void attributes() {
        Due.sentence(8, "and ATTRIBUTES x, y, z (0 to 2), each missing,"
                + " or a NUMBER (an int), a TRUTH, or an ENTITY (0 to 15).");
        PolicyForge x = new PolicyForge();
        x.entity(15, 0);
        holds(x, 15, "p has x||p has y||p has z", false);
        x.set(15, 0, 1, Integer.MAX_VALUE);
        x.set(15, 1, 1, Integer.MIN_VALUE);
        holds(x, 15, "p has x&&p has y&&!(p has z)", true);
        holds(x, 15, "p.x==-(p.y+1)", true);
        holds(x, 15, "p.x==65536*32767+65535", true);
        holds(x, 15, "p.y==-65536*32768", true);
        x.set(15, 2, 3, 15);
        holds(x, 15, "p.z==@15&&p.z.z==p", true);
        x.set(15, 2, 3, 0);
        holds(x, 15, "p.z==@0", true);
        x.set(15, 2, 2, 0);
        holds(x, 15, "p.z==false", true);
        PolicyForge y = new PolicyForge();
        y.entity(0, 0);
        for (int a = 0; a < 3; a++) {
            String name = "xyz".substring(a, a + 1);
            y.set(0, a, 2, 1);
            holds(y, 0, "p." + name, true);
            y.set(0, a, 0, 0);
            holds(y, 0, "p has x||p has y||p has z", false);
        }
    }

    private static void becomes() {
        Due.sentence(8, "ATTRIBUTE a of e becomes missing (sort 0), the NUMBER v (1),"
                + " a TRUTH, v being not 0 (2), the ENTITY v (3):");
        PolicyForge x = new PolicyForge();
        x.entity(0, 0);
        x.entity(1, 0);
        x.set(0, 0, 1, 0);
        holds(x, 0, "p.x==0", true);
        x.set(0, 0, 1, -1);
        holds(x, 0, "p.x==-1", true);
        x.set(0, 0, 0, 9);
        holds(x, 0, "p has x", false);
        for (int v : new int[] {1, 2, -1, 256, Integer.MIN_VALUE, Integer.MAX_VALUE}) {
            x.set(0, 0, 2, v);
            holds(x, 0, "p.x&&p.x==true", true);
        }
        x.set(0, 0, 2, 0);
        holds(x, 0, "p.x||p.x!=false", false);
        for (int e = 0; e < 16; e++) {
            x.set(0, 0, 3, e);
            holds(x, 0, "p.x==@" + e + "&&p.x in @" + e, true);
        }
        holds(x, 1, "p has x||p has y||p has z", false);
        x.set(0, 0, 0, Integer.MIN_VALUE);
        holds(x, 0, "p has x", false);
    }

    private static void theSortThatItHad() {
        Due.sentence(8, "the sort that it had.");
        PolicyForge x = new PolicyForge();
        x.entity(9, 2);
        int[] sorts = {0, 0, 1, 1, 2, 2, 3, 3, 0, 2, 0, 3, 1, 3, 2, 1, 0};
        for (int a = 0; a < 3; a++) {
            int attribute = a;
            int old = 0;
            for (int sort : sorts) {
                int had = old;
                Due.is(sort + " behind " + old, had, () -> x.set(9, attribute, sort, 0));
                old = sort;
            }
        }
    }

    private static void wrongNumbers() {
        Due.sentence(8, "IllegalArgumentException if a number is not as said;");
        PolicyForge x = new PolicyForge();
        x.entity(0, 0);
        x.set(0, 0, 3, 15);
        Due.refused("entity 16", () -> x.set(16, 0, 1, 0));
        Due.refused("attribute 3", () -> x.set(0, 3, 1, 0));
        Due.refused("sort 4", () -> x.set(0, 0, 4, 0));
        Due.refused("the entity 16", () -> x.set(0, 0, 3, 16));
        for (int n : Due.NEVER) {
            Due.refused("entity " + n, () -> x.set(n, 0, 1, 0));
            Due.refused("attribute " + n, () -> x.set(0, n, 1, 0));
            Due.refused("sort " + n, () -> x.set(0, 0, n, 0));
            Due.refused("the entity " + n, () -> x.set(0, 0, 3, n));
            Due.refused("the entity " + n + " for one that is not there", () -> x.set(1, 0, 3, n));
        }
        holds(x, 0, "p.x==@15", true);
        Due.is("the others are missing", false, () -> x.conforms(0));
        Due.is("y", 0, () -> x.set(0, 1, 0, 0));
        Due.is("z", 0, () -> x.set(0, 2, 0, 0));
        PolicyForge scene = Scene.made();
        Scene.refused(scene, "the entity 16", () -> scene.set(0, 2, 3, 16));
        PolicyForge other = Scene.made();
        Scene.refused(other, "sort 4", () -> other.set(0, 0, 4, 0));
    }

    private static void notThere() {
        Due.sentence(8, "NoSuchElementException if e is not there.");
        PolicyForge x = new PolicyForge();
        for (int n = 0; n < 16; n++) {
            int e = n;
            for (int sort = 0; sort < 4; sort++) {
                int some = sort;
                Due.noSuch(e + " with sort " + sort, () -> x.set(e, 2, some, 1));
            }
        }
        x.entity(0, 0);
        Due.is("none of it is kept", 0, () -> x.set(0, 2, 3, 9));
        Due.is("an ENTITY that is not there is one", 3, () -> x.set(0, 2, 0, 0));
        PolicyForge scene = Scene.made();
        Scene.unchanged(scene, "15", "java.util.NoSuchElementException", () -> scene.set(15, 0, 1, 1));
    }
}
