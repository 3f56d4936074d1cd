/** Promise 13: selected. */
public final class Promise13SelectedTest {
    private static final Check CHECK = new Check();

    public static void main(String[] args) {
        CHECK.runAll(Promise13SelectedTest.class);
    }

    private static void selected(Forge f, String when, int d, int word, int due) {
        CHECK.due(when, f.selected(d, word, 0, false), due);
    }

    private static void refused(Forge f, int d, int word, int shape) {
        for (boolean needed : new boolean[] {false, true}) {
            CHECK.due("selected(" + d + ", " + word + ", " + shape + ", " + needed + ")",
                f.selected(d, word, shape, needed), Forge.REFUSED);
        }
    }

    /** CLASSES are 0 to 9: "REFUSED if a number is not as said" */
    static void promise13ClassIs0To9() {
        Forge f = new Forge();
        f.withPlain(9);
        for (int d : Forge.outside(0, 9)) {
            refused(f, d, 0, 0);
        }
        for (int d = 0; d <= 9; d++) {
            selected(f, "class " + d, d, 0, 0);
        }
    }

    /** WORDS are 0 to 7, <init> and <clinit> too. */
    static void promise13WordIs0To7() {
        Forge f = new Forge();
        f.with(1, 0, 0, 0);
        for (int word : Forge.outside(0, 7)) {
            refused(f, 1, word, 0);
        }
        for (int word = 0; word <= 7; word++) {
            int m = f.method(1, word);
            selected(f, "word " + word, 1, word, m);
        }
    }

    /** SHAPES are 0 and 1. */
    static void promise13ShapeIs0Or1() {
        Forge f = new Forge();
        f.with(1, 0, 0, 0);
        for (int shape : Forge.outside(0, 1)) {
            refused(f, 1, 1, shape);
        }
        int first = f.added(1, 1, 0, Forge.METHOD);
        CHECK.due("shape 1 is not there", f.selected(1, 1, 1, false), Forge.NONE);
        int second = f.added(1, 1, 1, Forge.METHOD);
        CHECK.due("shape 0", f.selected(1, 1, 0, false), first);
        CHECK.due("shape 1", f.selected(1, 1, 1, false), second);
    }

    /** "NONE if there is none" */
    static void promise13NoneIfThereIsNone() {
        Forge f = new Forge();
        f.with(1, 0, Forge.FACE, 0).with(2, 0, 0, 0).with(3, 0, 0, 2);
        f.method(1, 1);
        f.method(3, 1);
        f.field(2, 2);
        selected(f, "one of a face that is not above", 2, 1, Forge.NONE);
        selected(f, "a field is no method", 2, 2, Forge.NONE);
        selected(f, "class 0 has no other", 0, 1, Forge.NONE);
        CHECK.due("class 0 has no other shape", f.selected(0, 0, 1, false), Forge.NONE);
    }

    /** "or d is not THERE" */
    static void promise13NoneIfNotThere() {
        Forge f = new Forge();
        for (int d = 1; d <= 9; d++) {
            selected(f, "class " + d, d, 0, Forge.NONE);
        }
        f.with(1, 0, 0, 0);
        selected(f, "it is there", 1, 0, 0);
        f.drop(1);
        selected(f, "it went", 1, 0, Forge.NONE);
    }

    /** A wrong number is REFUSED though d is not THERE. */
    static void promise13RefusedThoughNotThere() {
        Forge f = new Forge();
        refused(f, 5, 8, 0);
        refused(f, 5, -1, 0);
        refused(f, 5, 0, 2);
        refused(f, 5, 0, -1);
    }

    /** "the first METHOD in the LINE of d .. that is neither STATIC nor PRIVATE" */
    static void promise13FirstInTheLine() {
        for (int flags = 0; flags <= 7; flags++) {
            Forge f = new Forge();
            f.with(1, 0, 0, 0).with(2, 0, 0, 1).with(3, 0, 0, 2);
            int low = f.added(2, 1, 0, flags);
            int high = f.method(1, 1);
            selected(f, "below is one with flags " + flags, 3, 1, flags == Forge.METHOD ? low : high);
            f.remove(low);
            selected(f, "that is gone", 3, 1, high);
            f.remove(high);
            selected(f, "both are gone", 3, 1, Forge.NONE);
        }
    }

    /** "else the one with the least number of a FACE ABOVE d that is so" */
    static void promise13LeastNumberOfAFace() {
        for (int flags = 0; flags <= 7; flags++) {
            Forge f = new Forge();
            f.with(1, 0, Forge.FACE, 0).with(2, 0, Forge.FACE, 0, 1).with(3, 0, 0, 0, 2).with(4, 0, 0, 3);
            int near = f.added(2, 1, 0, flags);
            int far = f.method(1, 1);
            selected(f, "the least has flags " + flags, 4, 1, flags == Forge.METHOD ? near : far);
            f.remove(far);
            selected(f, "the other is gone", 4, 1, flags == Forge.METHOD ? near : Forge.NONE);
        }
    }

    /** The LINE comes before FACES, whatever the numbers; CLASS 0 is of it. */
    static void promise13LineBeforeFaces() {
        Forge f = new Forge();
        f.with(1, 0, Forge.FACE, 0).with(2, 0, 0, 0).with(3, 0, 0, 2, 1);
        int ofFace = f.method(1, 1);
        f.method(1, 0);
        selected(f, "just the face has it", 3, 1, ofFace);
        selected(f, "class 0 comes before faces", 3, 0, 0);
        f.added(3, 1, 0, Forge.METHOD | Forge.PRIVATE);
        selected(f, "a private one of its own is passed over", 3, 1, ofFace);
        int ofSuper = f.method(2, 1);
        selected(f, "the super has it", 3, 1, ofSuper);
    }

    /** For a FACE and for an ABSTRACT CLASS too. */
    static void promise13ForFacesAndAbstractClasses() {
        Forge f = new Forge();
        f.with(1, 0, Forge.FACE, 0).with(2, 0, Forge.FACE, 0, 1).with(3, 0, Forge.ABSTRACT, 0, 2);
        int up = f.method(1, 1);
        selected(f, "for the face itself", 1, 1, up);
        selected(f, "for one under it", 2, 1, up);
        selected(f, "for an abstract class", 3, 1, up);
        selected(f, "member 0 for a face", 2, 0, 0);
    }

    /** "with needed true of those only that are NEEDED" */
    static void promise13OfNeededOnes() {
        Forge f = new Forge();
        f.with(1, 1, 0, 0).with(2, 2, 0, 1);
        int up = f.method(1, 1);
        int down = f.method(2, 1);
        CHECK.due("neither is needed", f.selected(2, 1, 0, true), Forge.NONE);
        CHECK.due("member 0 is", f.selected(2, 0, 0, true), 0);
        f.ruled("keep class p.B { m s; }");
        CHECK.due("the upper one is needed", f.selected(2, 1, 0, true), up);
        CHECK.due("of all", f.selected(2, 1, 0, false), down);
        f.ruled("keep class q.C { m s; }");
        CHECK.due("both are needed", f.selected(2, 1, 0, true), down);
    }

    /** One that is NEEDED, but STATIC or PRIVATE, is not SELECTED. */
    static void promise13NeededButStatic() {
        Forge f = new Forge();
        f.with(1, 0, 0, 0);
        f.added(1, 1, 0, Forge.METHOD | Forge.STATIC);
        f.added(1, 2, 0, Forge.METHOD | Forge.PRIVATE);
        f.ruled("keep class ** { m *; }");
        CHECK.due("both are needed", f.count(7), 3);
        CHECK.due("the static one", f.selected(1, 1, 0, true), Forge.NONE);
        CHECK.due("the private one", f.selected(1, 2, 0, true), Forge.NONE);
    }

    /** Of FACES too: one that is not NEEDED gives way to one with a greater number. */
    static void promise13OfNeededOnesOfFaces() {
        Forge f = new Forge();
        f.with(1, 0, Forge.FACE, 0).with(2, 1, Forge.FACE, 0).with(3, 0, 0, 0, 1, 2);
        int first = f.method(1, 1);
        int second = f.method(2, 1);
        f.ruled("keep class p.C { m s; }");
        CHECK.due("of all", f.selected(3, 1, 0, false), first);
        CHECK.due("of those needed", f.selected(3, 1, 0, true), second);
    }
}
