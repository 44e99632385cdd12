/** Promises 1 and 2: a new object, and text. */
public final class TextTest {
    public static void main(String[] args) {
        newObject();
        charactersOfBytes();
        wrongBytes();
        limit();
        Due.end("TextTest");
    }

    private static void newObject() {
        PolicyForge x = new PolicyForge();
        for (int what = 0; what < 4; what++) {
            int asked = what;
            Due.is("count of a new object " + what, 0, () -> x.count(asked));
        }
        for (int i = 0; i < 6; i++) {
            int policy = i;
            Due.is("tokens of a new object", PolicyForge.NONE, () -> x.count(10 + policy));
            Due.is("told of a new object", 0, () -> x.told(policy));
            Due.is("drop of a new object", false, () -> x.drop(policy));
        }
        for (int e = 0; e < 16; e++) {
            int entity = e;
            Due.noSuch("set in a new object", () -> x.set(entity, 0, 1, 1));
            Due.is("conforms in a new object", false, () -> x.conforms(entity));
        }
        Due.is("where of a new object", PolicyForge.NONE, x::where);
        for (int kind = 0; kind < 3; kind++) {
            x.entity(kind, kind);
            int entity = kind;
            Due.is("nothing declared: no attributes conform", true, () -> x.conforms(entity));
            x.set(kind, kind, 1, 0);
            Due.is("nothing declared: an attribute does not", false, () -> x.conforms(entity));
        }
    }

    private static void charactersOfBytes() {
        PolicyForge x = new PolicyForge();
        Due.is("no byte", 0, () -> x.text(0));
        Due.is("one byte", 1, () -> x.text('p'));
        Due.is("zeros between", 3, () -> x.text(((long) 'e' << 56) | ((long) 'r' << 24)));
        Due.is("more", 6, () -> x.text(Due.packed("mit")));
        Due.is("the rest", 13, () -> x.text(Due.packed("(_,_,_)")));
        Due.is("no byte behind", 13, () -> x.text(0));
        Due.is("the characters in their order", 8, () -> x.policy(0));
        Due.is("the text is empty", 0, () -> x.count(0));
    }

    private static void wrongBytes() {
        PolicyForge x = new PolicyForge();
        x.text(Due.packed(" ~"));
        Due.refused("31", () -> x.text(31));
        Due.refused("127", () -> x.text(127));
        Due.refused("1", () -> x.text(1));
        Due.refused("128", () -> x.text(128));
        Due.refused("255 on top", () -> x.text(-1L << 56));
        Due.refused("good ones about a wrong one", () -> x.text(Due.packed("aaa\naaaa")));
        Due.refused("all ones", () -> x.text(-1L));
        Due.is("nothing changed", 2, () -> x.count(0));
        Due.is("32 and 126 are characters", 4, () -> x.text(32 << 8 | 126));
    }

    private static void limit() {
        PolicyForge x = new PolicyForge();
        for (int i = 0; i < 12; i++) {
            x.text(Due.packed("        "));
        }
        Due.badState("104", () -> x.text(Due.packed("aaaaaaaa")));
        Due.badState("101", () -> x.text(Due.packed("aaaaa")));
        Due.is("nothing changed", 96, () -> x.count(0));
        Due.is("100", 100, () -> x.text(Due.packed("    ")));
        Due.badState("one more", () -> x.text(' '));
        Due.refused("a wrong byte is told before the length", () -> x.text(127));
        Due.is("none more", 100, () -> x.text(0));
        Due.refused("blanks alone", () -> x.policy(0));
        Due.is("the end of blanks", 100, x::where);
    }
}
