/** The boundary cases of promise 2: text. */
final class Promise02 {
    private static final String HEAD = "permit(_,_,_)";

    private Promise02() {
    }

    static void run() {
        limits();
        bytesInOrder();
        zerosLeftOut();
        howManyItHas();
        wrongBytes();
        tooMany();
        nothingChanges();
    }

    private static void limits() {
        Due.sentence(2, "THE TEXT is a row of at most 100 characters (32 to 126),");
        PolicyForge all = new PolicyForge();
        for (int c = 32; c <= 126; c++) {
            int one = c;
            Due.is("character " + c, c - 31, () -> all.text(one));
        }
        PolicyForge full = new PolicyForge();
        Due.write(full, HEAD + " ".repeat(80) + "when{1}");
        Due.is("a full text", 100, () -> full.count(0));
        Due.badState("one more", () -> full.text(' '));
        Due.is("its tokens up to the last character", 12, () -> full.policy(0));
        Due.is("room again", 8, () -> full.text(Due.packed("permit(_")));
        Due.fault("^" + "(".repeat(100));
        Due.fault("permit(^" + ",".repeat(93));
        Due.fault("^" + "}".repeat(99) + "$");
    }

    private static void bytesInOrder() {
        Due.sentence(2, "The characters in the bytes of w, the highest first,");
        PolicyForge x = new PolicyForge();
        x.text(Due.packed("permit(_"));
        x.text(Due.packed(",_,_)   "));
        Due.is("a policy", 8, () -> x.policy(0));
        x.text(Due.packed("_(timrep"));
        x.text(Due.packed("   )_,_,"));
        Due.refused("the lowest first", () -> x.policy(0));
        Due.is("its first token", 0, x::where);
    }

    private static void zerosLeftOut() {
        Due.sentence(2, "zeros left out, come to THE TEXT:");
        PolicyForge x = new PolicyForge();
        Due.is("zeros alone", 0, () -> x.text(0));
        for (int n = 0; n < HEAD.length(); n++) {
            int shift = 8 * (n % 8);
            int at = n;
            Due.is("a byte at " + shift, n + 1, () -> x.text((long) HEAD.charAt(at) << shift));
            Due.is("zeros behind", n + 1, () -> x.text(0));
        }
        Due.is("each came", 8, () -> x.policy(0));
        x.text((long) 'p' << 56 | 'e');
        x.text((long) 'r' << 48 | (long) 'm' << 24 | 'i');
        x.text((long) 't' << 8);
        Due.write(x, "(_,_,_)");
        Due.is("zeros between", 8, () -> x.policy(0));
    }

    private static void howManyItHas() {
        Due.sentence(2, "come to THE TEXT: how many it has.");
        for (int n = 0; n <= 8; n++) {
            PolicyForge x = new PolicyForge();
            String some = "pppppppp".substring(0, n);
            int many = n;
            Due.is(n + " at first", many, () -> x.text(Due.packed(some)));
            Due.is(n + " more", 2 * many, () -> x.text(Due.packed(some)));
            Due.is("count of them", 2 * many, () -> x.count(0));
        }
    }

    private static void wrongBytes() {
        Due.sentence(2, "IllegalArgumentException if another byte is not as said;");
        for (int shift = 0; shift < 64; shift += 8) {
            PolicyForge x = new PolicyForge();
            long others = Due.packed("pppppppp") & ~(255L << shift);
            for (int c = 1; c < 256; c++) {
                long w = (long) c << shift;
                long among = others | w;
                if (c < 32 || c > 126) {
                    Due.refused("byte " + c + " at " + shift, () -> x.text(w));
                    Due.refused("byte " + c + " at " + shift + " among others", () -> x.text(among));
                }
            }
            Due.is("none came", 0, () -> x.count(0));
        }
    }

    private static void tooMany() {
        Due.sentence(2, "IllegalStateException if there would be more than 100;");
        for (int n = 1; n <= 8; n++) {
            PolicyForge x = new PolicyForge();
            Due.write(x, " ".repeat(101 - n));
            long some = Due.packed("        ".substring(0, n));
            Due.badState("101 by " + n, () -> x.text(some));
            long highest = some << 8 * (8 - n);
            Due.badState("101 by the highest " + n, () -> x.text(highest));
            Due.is("100 by one fewer", 100, () -> x.text(some >>> 8));
            Due.is("zeros are no characters", 100, () -> x.text(0));
            Due.badState("101 by 1", () -> x.text(' '));
            Due.badState("108", () -> x.text(Due.packed("        ")));
        }
    }

    private static void nothingChanges() {
        Due.sentence(2, "nothing changes then.");
        PolicyForge x = new PolicyForge();
        Due.write(x, HEAD);
        Due.refused("good bytes before a wrong one", () -> x.text(Due.packed("ppppppp\n")));
        Due.refused("good bytes behind a wrong one", () -> x.text(Due.packed("\177ppppppp")));
        Due.is("characters", 13, () -> x.count(0));
        Due.write(x, " ".repeat(80));
        Due.badState("too many", () -> x.text(Due.packed("pppppppp")));
        Due.is("characters of the longer one", 93, () -> x.count(0));
        Due.is("it goes on from there", 100, () -> x.text(Due.packed("when{1}")));
        Due.badState("one too many", () -> x.text('p'));
        Due.is("none of those came", 12, () -> x.policy(0));
        PolicyForge scene = Scene.made();
        Scene.unchanged(scene, "eight more than 96", "java.lang.IllegalStateException",
                () -> scene.text(Due.packed("permit(_")));
        Scene.refused(scene, "a wrong byte", () -> scene.text(Due.packed("per\tmit(")));
    }
}
