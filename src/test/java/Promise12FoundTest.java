/** Promise 12: found. */
public final class Promise12FoundTest {
    private static final Check CHECK = new Check();

    public static void main(String[] args) {
        CHECK.runAll(Promise12FoundTest.class);
    }

    private static void found(Forge f, String when, int kind, int c, int word, int due) {
        CHECK.due(when, f.found(kind, c, word, 0, false), due);
    }

    private static void refused(Forge f, int kind, int c, int word, int shape) {
        for (boolean needed : new boolean[] {false, true}) {
            CHECK.due("found(" + kind + ", " + c + ", " + word + ", " + shape + ", " + needed + ")",
                f.found(kind, c, word, shape, needed), Forge.REFUSED);
        }
    }

    /** "KIND (2 to 5)": "REFUSED if a number is not as said" */
    static void promise12KindIs2To5() {
        Forge f = new Forge();
        for (int kind : Forge.outside(2, 5)) {
            refused(f, kind, 0, 0, 0);
        }
        refused(f, Forge.NEW, 0, 0, 0);
        refused(f, Forge.TYPE, 0, 0, 0);
        CHECK.due("kind 2 looks at fields", f.found(2, 0, 0, 0, false), Forge.NONE);
        for (int kind = 3; kind <= 5; kind++) {
            CHECK.due("kind " + kind + " looks at methods", f.found(kind, 0, 0, 0, false), 0);
        }
    }

    /** CLASSES are 0 to 9. */
    static void promise12ClassIs0To9() {
        Forge f = new Forge();
        f.withPlain(9);
        for (int c : Forge.outside(0, 9)) {
            refused(f, Forge.VIRTUAL, c, 0, 0);
            refused(f, Forge.FIELD, c, 0, 0);
        }
        for (int c = 0; c <= 9; c++) {
            found(f, "class " + c, Forge.VIRTUAL, c, 0, 0);
        }
    }

    /** WORDS are 0 to 7; 6 and 7 no FIELD has. */
    static void promise12WordIs0To7() {
        Forge f = new Forge();
        f.with(1, 0, 0, 0);
        for (int word : Forge.outside(0, 7)) {
            refused(f, Forge.VIRTUAL, 1, word, 0);
            refused(f, Forge.FIELD, 1, word, 0);
        }
        for (int word = 0; word <= 7; word++) {
            int m = f.method(1, word);
            found(f, "method " + word, Forge.SPECIAL, 1, word, m);
            found(f, "field " + word, Forge.FIELD, 1, word, Forge.NONE);
        }
    }

    /** SHAPES are 0 and 1. */
    static void promise12ShapeIs0Or1() {
        Forge f = new Forge();
        f.with(1, 0, 0, 0);
        for (int shape : Forge.outside(0, 1)) {
            refused(f, Forge.VIRTUAL, 1, 1, shape);
            refused(f, Forge.FIELD, 1, 1, shape);
        }
        int first = f.added(1, 1, 0, Forge.METHOD);
        CHECK.due("shape 1 is not there", f.found(Forge.VIRTUAL, 1, 1, 1, false), Forge.NONE);
        int second = f.added(1, 1, 1, Forge.METHOD);
        CHECK.due("shape 0", f.found(Forge.VIRTUAL, 1, 1, 0, false), first);
        CHECK.due("shape 1", f.found(Forge.VIRTUAL, 1, 1, 1, false), second);
    }

    /** "NONE if there is none" */
    static void promise12NoneIfThereIsNone() {
        Forge f = new Forge();
        f.with(1, 0, Forge.FACE, 0).with(2, 0, 0, 0).with(3, 0, 0, 2);
        f.method(1, 1);
        f.method(3, 1);
        f.field(2, 2);
        found(f, "one of a face that is not above", Forge.VIRTUAL, 2, 1, Forge.NONE);
        found(f, "a field is no method", Forge.VIRTUAL, 2, 2, Forge.NONE);
        found(f, "a method is no field", Forge.FIELD, 3, 1, Forge.NONE);
        found(f, "class 0 has no other", Forge.VIRTUAL, 0, 1, Forge.NONE);
        CHECK.due("class 0 has no other shape", f.found(Forge.VIRTUAL, 0, 0, 1, false), Forge.NONE);
    }

    /** "or c is not THERE" */
    static void promise12NoneIfNotThere() {
        Forge f = new Forge();
        for (int c = 1; c <= 9; c++) {
            found(f, "class " + c, Forge.VIRTUAL, c, 0, Forge.NONE);
        }
        f.with(1, 0, 0, 0);
        f.method(1, 1);
        f.drop(1);
        found(f, "one that went", Forge.VIRTUAL, 1, 1, Forge.NONE);
        found(f, "not even member 0", Forge.VIRTUAL, 1, 0, Forge.NONE);
    }

    /** A wrong number is REFUSED though c is not THERE. */
    static void promise12RefusedThoughNotThere() {
        Forge f = new Forge();
        refused(f, 1, 5, 0, 0);
        refused(f, 6, 5, 0, 0);
        refused(f, 5, 5, 8, 0);
        refused(f, 5, 5, 0, 2);
    }

    /** "the first one in the LINE of c" */
    static void promise12FirstInTheLine() {
        Forge f = new Forge();
        f.with(1, 0, 0, 0).with(2, 0, 0, 1).with(3, 0, 0, 2);
        int low = f.method(3, 1);
        int high = f.method(1, 1);
        int middle = f.method(2, 1);
        found(f, "its own", Forge.VIRTUAL, 3, 1, low);
        found(f, "from class 2", Forge.VIRTUAL, 2, 1, middle);
        f.remove(low);
        found(f, "its super's", Forge.VIRTUAL, 3, 1, middle);
        f.remove(middle);
        found(f, "its super's super's", Forge.VIRTUAL, 3, 1, high);
        f.remove(high);
        found(f, "none is left", Forge.VIRTUAL, 3, 1, Forge.NONE);
    }

    /** STATIC and PRIVATE ones are FOUND too, by each KIND. */
    static void promise12AnyFlags() {
        for (int flags = 0; flags <= 7; flags++) {
            Forge f = new Forge();
            f.with(1, 0, 0, 0).with(2, 0, 0, 1);
            int m = f.added(1, 1, 0, flags);
            for (int kind = 2; kind <= 5; kind++) {
                found(f, "kind " + kind + " flags " + flags, kind, 2, 1, (kind == 2) == (flags % 2 == 0) ? m : Forge.NONE);
            }
        }
    }

    /** "or else the one with the least number of a FACE ABOVE c" */
    static void promise12LeastNumberOfAFace() {
        Forge f = new Forge();
        f.with(1, 0, Forge.FACE, 0).with(2, 0, Forge.FACE, 0, 1).with(3, 0, 0, 0, 2).with(4, 0, 0, 3);
        int near = f.method(2, 1);
        int far = f.method(1, 1);
        found(f, "the least number is the nearer face's", Forge.VIRTUAL, 4, 1, near);
        f.remove(near);
        found(f, "the farther face's", Forge.VIRTUAL, 4, 1, far);
        f.method(2, 1);
        found(f, "the least number is the farther face's", Forge.VIRTUAL, 4, 1, far);
        int field = f.field(1, 1);
        found(f, "a field of a face", Forge.FIELD, 4, 1, field);
    }

    /** The LINE comes before FACES, whatever the numbers. */
    static void promise12LineBeforeFaces() {
        Forge f = new Forge();
        f.with(1, 0, Forge.FACE, 0).with(2, 0, 0, 0).with(3, 0, 0, 2, 1);
        int ofFace = f.method(1, 1);
        found(f, "just the face has it", Forge.VIRTUAL, 3, 1, ofFace);
        int ofSuper = f.added(2, 1, 0, Forge.METHOD | Forge.STATIC | Forge.PRIVATE);
        found(f, "the super has it too", Forge.VIRTUAL, 3, 1, ofSuper);
        f.method(1, 0);
        found(f, "class 0 comes before faces", Forge.VIRTUAL, 3, 0, 0);
    }

    /** The LINE of a FACE is itself and CLASS 0; then come the FACES ABOVE it. */
    static void promise12FromAFace() {
        Forge f = new Forge();
        f.with(1, 0, Forge.FACE, 0).with(2, 0, 0, 0).with(3, 0, Forge.FACE, 2, 1);
        int above = f.method(1, 1);
        f.method(2, 2);
        found(f, "one of a face above it", Forge.VIRTUAL, 3, 1, above);
        found(f, "none of what was said to be its super", Forge.VIRTUAL, 3, 2, Forge.NONE);
        found(f, "member 0", Forge.VIRTUAL, 3, 0, 0);
        int own = f.method(3, 0);
        found(f, "its own is first", Forge.VIRTUAL, 3, 0, own);
    }

    /** "of the MEMBERS that are not GONE" */
    static void promise12NotGone() {
        Forge f = new Forge();
        f.with(1, 0, Forge.FACE, 0).with(2, 0, Forge.FACE, 0).with(3, 0, 0, 0, 1, 2);
        int first = f.method(1, 1);
        int second = f.method(2, 1);
        found(f, "the least", Forge.VIRTUAL, 3, 1, first);
        f.remove(first);
        found(f, "the least is gone", Forge.VIRTUAL, 3, 1, second);
        f.drop(2);
        found(f, "both are", Forge.VIRTUAL, 3, 1, Forge.NONE);
    }

    /** "with needed true of those only that are NEEDED" */
    static void promise12OfNeededOnes() {
        Forge f = new Forge();
        f.with(1, 1, 0, 0).with(2, 2, 0, 1);
        int up = f.method(1, 1);
        int down = f.method(2, 1);
        CHECK.due("neither is needed", f.found(5, 2, 1, 0, true), Forge.NONE);
        CHECK.due("of all", f.found(5, 2, 1, 0, false), down);
        f.ruled("keep class p.B { m s; }");
        CHECK.due("the upper one is needed", f.found(5, 2, 1, 0, true), up);
        CHECK.due("of all, as before", f.found(5, 2, 1, 0, false), down);
        f.ruled("keep class q.C { m s; }");
        CHECK.due("both are needed", f.found(5, 2, 1, 0, true), down);
    }

    /** Of FACES too: one that is not NEEDED gives way to one with a greater number. */
    static void promise12OfNeededOnesOfFaces() {
        Forge f = new Forge();
        f.with(1, 0, Forge.FACE, 0).with(2, 1, Forge.FACE, 0).with(3, 0, 0, 0, 1, 2);
        int first = f.method(1, 1);
        int second = f.method(2, 1);
        f.ruled("keep class p.C { m s; }");
        CHECK.due("of all", f.found(5, 3, 1, 0, false), first);
        CHECK.due("of those needed", f.found(5, 3, 1, 0, true), second);
        int field = f.field(3, 1);
        CHECK.due("a field, of all", f.found(2, 3, 1, 0, false), field);
        CHECK.due("a field, of those needed", f.found(2, 3, 1, 0, true), Forge.NONE);
    }
}
