/** Promises 10 to 13: what is needed, made and started, found and selected. */
public final class NeedPromisesTest {
    private static final Check CHECK = new Check();
    private static final int NONE = ShrinkForge.NONE;
    private static final int REFUSED = ShrinkForge.REFUSED;
    private static final int FAR = Integer.MAX_VALUE;
    private static final int DEEP = Integer.MIN_VALUE;

    public static void main(String[] args) {
        promise10Keep();
        promise10KeepTwice();
        promise10KeepAbstractAndFace();
        promise10KeepMembers();
        promise10KeepNames();
        promise10Starts();
        promise10NewAndType();
        promise10FoundStatic();
        promise10Virtual();
        promise10LibraryCall();
        promise10WrongNumbers();
        promise11Part();
        promise11KeptTexts();
        promise12Found();
        promise12FoundNeeded();
        promise12WrongNumbers();
        promise13Selected();
        promise13SelectedNeeded();
        promise13WrongNumbers();
        CHECK.end("NeedPromisesTest");
    }

    private static void state(Forge f, int c, String due) {
        CHECK.due("needed, made, started of class " + c, f.state(c), due);
    }

    private static void needed(Forge f, String which, int m, boolean due) {
        CHECK.due(which + " is needed", f.x.part(m, 0), due ? 1 : 0);
    }

    private static void promise10Keep() {
        Forge f = new Forge();
        f.type(1, 0, 0, 0).type(2, 0, Forge.FACE, 0).type(3, 0, Forge.FACE, 0, 2).type(4, 1, 0, 1, 3).type(5, 0, 0, 0);
        int meant = f.method(4, 1);
        int other = f.method(4, 2);
        state(f, 0, "100");
        state(f, 4, "000");
        f.rule("keep class p.E { m s; }");
        state(f, 0, "101");
        state(f, 1, "101");
        state(f, 2, "100");
        state(f, 3, "100");
        state(f, 4, "111");
        state(f, 5, "000");
        needed(f, "a member meant", meant, true);
        needed(f, "another", other, false);
        CHECK.due("kept", f.x.needs(4, 3), 1);
        CHECK.due("not kept", f.x.needs(1, 3), 0);
        CHECK.due("class 0 keeps its name", f.x.needs(0, 3), 1);
        CHECK.due("above class 4", f.x.needs(4, 4), 4);
        CHECK.due("above class 0", f.x.needs(0, 4), 0);
    }

    private static void promise10KeepTwice() {
        Forge f = new Forge();
        f.type(1, 0, 0, 0).type(2, 0, 0, 0).type(3, 0, 0, 0);
        int first = f.method(1, 1);
        int second = f.method(2, 1);
        int still = f.member(3, 2, 0, Forge.STATIC);
        f.refer(first, Forge.FIELD, 3, 2);
        f.rule("keep class o.B { m s; }");
        f.rule("keep class o.C { m s; }");
        state(f, 1, "111");
        state(f, 2, "111");
        state(f, 3, "101");
        needed(f, "meant by the first rule", first, true);
        needed(f, "meant by the second rule", second, true);
        needed(f, "what is found", still, true);
    }

    private static void promise10KeepAbstractAndFace() {
        Forge f = new Forge();
        f.type(1, 0, Forge.ABSTRACT, 0).type(2, 0, Forge.FACE, 0).type(3, 0, Forge.FACE | Forge.ABSTRACT, 0);
        f.rule("keep class **");
        state(f, 1, "101");
        state(f, 2, "101");
        state(f, 3, "101");
        state(f, 0, "101");
    }

    private static void promise10KeepMembers() {
        Forge f = new Forge();
        f.type(1, 0, 0, 0).type(2, 0, 0, 0).type(3, 0, 0, 0);
        int keeper = f.method(1, 1);
        int held = f.method(2, 2);
        int loose = f.method(3, 2);
        f.refer(keeper, Forge.TYPE, 2, 0);
        f.rule("keepmembers class ** { m t; }");
        state(f, 2, "000");
        needed(f, "a member of a class that is not needed", held, false);
        f.rule("keep class o.B { m s; }");
        state(f, 2, "100");
        needed(f, "a member of a class that is needed", held, true);
        needed(f, "a member of another class", loose, false);
        CHECK.due("keepmembers keeps no name", f.x.needs(2, 3), 0);
        CHECK.due("but it is about the class", f.x.needs(2, 5), 0);
        f.refer(held, Forge.NEW, 3, 0);
        state(f, 3, "111");
        needed(f, "a member that comes by one held so", loose, true);
    }

    private static void promise10KeepNames() {
        Forge f = new Forge();
        f.type(1, 0, 0, 0);
        int m = f.method(1, 1);
        f.rule("keepnames class ** { x *; }");
        state(f, 1, "000");
        needed(f, "a member meant by keepnames", m, false);
        CHECK.due("its name is kept", f.x.needs(1, 3), 1);
        CHECK.due("rule 0 is about it", f.x.needs(1, 5), 0);
        f.rule("keepnames class q.*");
        CHECK.due("rule 1 is not", f.x.needs(1, 5), 0);
        f.rule("keepmembers class o.B");
        CHECK.due("rule 2 is", f.x.needs(1, 5), 2);
        f.x.clear(false);
        CHECK.due("without rules", f.x.needs(1, 5), NONE);
    }

    private static void promise10Starts() {
        Forge f = new Forge();
        f.type(1, 0, Forge.ABSTRACT, 0).type(2, 0, 0, 1).type(3, 0, 0, 2).type(4, 0, 0, 0);
        int ofSuper = f.member(1, 7, 0, Forge.METHOD | Forge.STATIC);
        int notStatic = f.member(2, 7, 0, Forge.METHOD);
        int otherShape = f.member(3, 7, 1, Forge.METHOD | Forge.STATIC);
        int hidden = f.member(3, 7, 0, Forge.METHOD | Forge.STATIC | Forge.PRIVATE);
        int loose = f.member(4, 7, 0, Forge.METHOD | Forge.STATIC);
        f.refer(ofSuper, Forge.TYPE, 4, 0);
        f.rule("keep class o.D");
        state(f, 1, "101");
        needed(f, "the start of a super", ofSuper, true);
        needed(f, "a start that is not static", notStatic, false);
        needed(f, "a start with shape 1", otherShape, false);
        needed(f, "a private start", hidden, true);
        state(f, 4, "100");
        needed(f, "the start of one that is not started", loose, false);
        f.x.remove(ofSuper);
        state(f, 4, "000");
    }

    private static void promise10NewAndType() {
        Forge f = new Forge();
        f.type(1, 0, 0, 0).type(2, 0, 0, 0).type(3, 0, Forge.ABSTRACT, 0).type(4, 0, Forge.FACE, 0).type(5, 0, 0, 2);
        int m = f.method(1, 1);
        f.rule("keep class o.B { m s; }");
        f.refer(m, Forge.NEW, 5, 7).refer(m, Forge.NEW, 3, 0).refer(m, Forge.NEW, 4, 0).refer(m, Forge.NEW, 9, 0);
        state(f, 5, "111");
        state(f, 2, "101");
        state(f, 3, "100");
        state(f, 4, "100");
        CHECK.due("not there", f.x.needs(9, 0), NONE);
        CHECK.due("class 0 is not made", f.x.needs(0, 1), 0);
        f.refer(m, Forge.NEW, 0, 0);
        state(f, 0, "111");
        f.x.remove(m);
        state(f, 5, "000");
    }

    private static void promise10FoundStatic() {
        Forge f = new Forge();
        f.type(1, 0, 0, 0).type(2, 0, 0, 0).type(3, 0, 0, 2).type(4, 0, 0, 0).type(5, 0, 0, 4);
        int from = f.method(1, 1);
        int still = f.member(2, 2, 0, Forge.STATIC);
        int plain = f.method(4, 3);
        f.rule("keep class o.B { m s; }");
        f.refer(from, Forge.FIELD, 3, 2).refer(from, Forge.SPECIAL, 5, 3);
        needed(f, "a static field of a super", still, true);
        state(f, 2, "101");
        state(f, 3, "100");
        needed(f, "a method of a super", plain, true);
        state(f, 4, "100");
        state(f, 5, "100");
        for (int kind = Forge.STATICALLY; kind <= Forge.VIRTUAL; kind++) {
            Forge g = new Forge();
            g.type(1, 0, 0, 0).type(2, 0, 0, 0);
            int method = g.method(1, 1);
            g.member(2, 4, 0, Forge.METHOD | Forge.STATIC | Forge.PRIVATE);
            g.refer(method, kind, 2, 4).rule("keep class o.B { m s; }");
            state(g, 2, "101");
        }
    }

    private static void promise10Virtual() {
        Forge f = new Forge();
        f.type(1, 0, Forge.FACE, 0).type(2, 0, 0, 0, 1).type(3, 0, 0, 2).type(4, 0, 0, 0).type(5, 0, 0, 2).type(6, 0, 0, 0);
        int from = f.method(6, 5);
        int ofFace = f.method(1, 1);
        int over = f.method(2, 1);
        int deeper = f.method(3, 1);
        int beside = f.method(4, 1);
        int unmade = f.method(5, 1);
        f.rule("keep class o.G { m w; }");
        f.refer(from, Forge.VIRTUAL, 1, 1).refer(from, Forge.NEW, 4, 0);
        needed(f, "what is found", ofFace, true);
        needed(f, "one of a class that is not made", over, false);
        f.refer(from, Forge.NEW, 3, 0);
        needed(f, "what is selected", deeper, true);
        needed(f, "what is overridden", over, false);
        needed(f, "one of a class that is not under it", beside, false);
        needed(f, "one of a class that is needed, not made", unmade, false);
        f.x.remove(deeper);
        needed(f, "what is selected now", over, true);
        f.refer(from, Forge.NEW, 5, 0);
        needed(f, "what is made now", unmade, true);
        f.refer(from, Forge.VIRTUAL, 0, 1);
        needed(f, "all is under class 0", beside, true);
    }

    private static void promise10LibraryCall() {
        Forge f = new Forge();
        f.type(1, 0, Forge.ABSTRACT, 0).type(2, 0, 0, 1).type(3, 0, Forge.ABSTRACT, 0);
        int called = f.method(1, 0);
        int otherShape = f.member(2, 0, 1, Forge.METHOD);
        int hidden = f.member(2, 0, 0, Forge.METHOD | Forge.PRIVATE);
        int unmade = f.method(3, 0);
        f.rule("keep class **");
        needed(f, "what the library calls", called, true);
        needed(f, "another shape", otherShape, false);
        needed(f, "a private one", hidden, false);
        needed(f, "one of a class that is not made", unmade, false);
    }

    private static void promise10WrongNumbers() {
        Forge f = new Forge();
        f.type(1, 0, 0, 0);
        for (int what : new int[] {-1, 6, FAR, DEEP}) {
            CHECK.due("needs(1, " + what + ")", f.x.needs(1, what), REFUSED);
            CHECK.due("needs(2, " + what + ")", f.x.needs(2, what), REFUSED);
        }
        for (int c : new int[] {-1, 2, 10, 64, FAR, DEEP}) {
            for (int what = 0; what <= 5; what++) {
                CHECK.due("needs(" + c + ", " + what + ")", f.x.needs(c, what), NONE);
            }
        }
    }

    private static void promise11Part() {
        Forge f = new Forge();
        f.type(3, 0, 0, 0);
        int m = f.member(3, 5, 1, Forge.STATIC | Forge.PRIVATE);
        int[] due = {0, 0, 3, 5, 1, 6};
        for (int what = 0; what <= 5; what++) {
            CHECK.due("part(m, " + what + ")", f.x.part(m, what), due[what]);
        }
        CHECK.due("member 0 is needed", f.x.part(0, 0), 1);
        for (int what : new int[] {-1, 6, FAR, DEEP}) {
            CHECK.due("part(m, " + what + ")", f.x.part(m, what), REFUSED);
            CHECK.due("part(9, " + what + ")", f.x.part(9, what), REFUSED);
        }
        for (int other : new int[] {-1, 2, 39, 40, 64, FAR, DEEP}) {
            CHECK.due("part(" + other + ", 2)", f.x.part(other, 2), NONE);
        }
        f.x.remove(m);
        CHECK.due("gone", f.x.part(m, 2), NONE);
    }

    private static void promise11KeptTexts() {
        Forge f = new Forge();
        f.type(1, 0, 0, 0).type(2, 1, 0, 0);
        int meant = f.method(1, 1);
        int alike = f.method(2, 1);
        int otherShape = f.member(2, 1, 1, Forge.METHOD);
        int otherKind = f.field(2, 1);
        int called = f.method(2, 0);
        int calledShape = f.member(2, 0, 1, Forge.METHOD);
        int init = f.member(2, 6, 1, Forge.METHOD);
        int clinit = f.member(2, 7, 1, Forge.METHOD);
        f.rule("keepmembers class o.B { m s; }");
        CHECK.due("keepmembers of a class that is not needed", f.x.part(alike, 1), 0);
        f.rule("keep class o.B");
        CHECK.due("keepmembers of a class that is needed", f.x.part(meant, 1), 1);
        CHECK.due("the same word and shape", f.x.part(alike, 1), 1);
        CHECK.due("another shape", f.x.part(otherShape, 1), 0);
        CHECK.due("another kind", f.x.part(otherKind, 1), 0);
        CHECK.due("r with shape 0", f.x.part(called, 1), 1);
        CHECK.due("r with shape 1", f.x.part(calledShape, 1), 0);
        CHECK.due("<init>", f.x.part(init, 1), 1);
        CHECK.due("<clinit>", f.x.part(clinit, 1), 1);
        f.rule("keepnames class p.C { f s; }");
        CHECK.due("meant by keepnames", f.x.part(otherKind, 1), 1);
        f.x.remove(meant);
        CHECK.due("what meant it is gone", f.x.part(alike, 1), 0);
    }

    private static void promise12Found() {
        Forge f = new Forge();
        f.type(1, 0, Forge.FACE, 0).type(2, 0, Forge.FACE, 0, 1).type(3, 0, 0, 0, 2).type(4, 0, 0, 3);
        f.type(5, 0, Forge.FACE, 0);
        f.method(5, 1);
        CHECK.due("a face that is not above", f.x.found(5, 4, 1, 0, false), NONE);
        int ofSecond = f.method(2, 1);
        int ofFirst = f.method(1, 1);
        CHECK.due("the least number of a face, not the nearest", f.x.found(5, 4, 1, 0, false), ofSecond);
        CHECK.due("found by face 1", f.x.found(5, 1, 1, 0, false), ofFirst);
        int ofSuper = f.member(3, 1, 0, Forge.METHOD | Forge.STATIC | Forge.PRIVATE);
        CHECK.due("the line comes before faces", f.x.found(4, 4, 1, 0, false), ofSuper);
        int own = f.method(4, 1);
        CHECK.due("its own comes first", f.x.found(3, 4, 1, 0, false), own);
        CHECK.due("no such field", f.x.found(2, 4, 1, 0, false), NONE);
        CHECK.due("no such shape", f.x.found(5, 4, 1, 1, false), NONE);
        int field = f.field(3, 1);
        CHECK.due("a field", f.x.found(2, 4, 1, 0, false), field);
        int ofFace = f.method(2, 0);
        CHECK.due("class 0 comes before faces", f.x.found(5, 4, 0, 0, false), 0);
        CHECK.due("but a face itself is first of its line", f.x.found(5, 2, 0, 0, false), ofFace);
        f.x.remove(own);
        CHECK.due("what is gone is not found", f.x.found(5, 4, 1, 0, false), ofSuper);
    }

    private static void promise12FoundNeeded() {
        Forge f = new Forge();
        f.type(1, 0, 0, 0).type(2, 1, 0, 1);
        int up = f.method(1, 1);
        int down = f.method(2, 1);
        CHECK.due("neither is needed", f.x.found(5, 2, 1, 0, true), NONE);
        f.rule("keep class o.B { m s; }");
        CHECK.due("just the upper one is needed", f.x.found(5, 2, 1, 0, true), up);
        CHECK.due("of all", f.x.found(5, 2, 1, 0, false), down);
        f.rule("keep class p.C { m s; }");
        CHECK.due("both are needed", f.x.found(5, 2, 1, 0, true), down);
    }

    private static void promise12WrongNumbers() {
        Forge f = new Forge();
        f.type(1, 0, 0, 0);
        int[][] bad = {
            {1, 1, 0, 0}, {6, 1, 0, 0}, {5, -1, 0, 0}, {5, 10, 0, 0}, {5, 1, -1, 0}, {5, 1, 8, 0}, {5, 1, 0, -1},
            {5, 1, 0, 2}, {0, 0, 0, 0}, {FAR, FAR, FAR, FAR}, {DEEP, DEEP, DEEP, DEEP}, {5, 2, 8, 0}
        };
        for (int[] b : bad) {
            CHECK.due("found with a bad number", f.x.found(b[0], b[1], b[2], b[3], false), REFUSED);
        }
        CHECK.due("not there", f.x.found(5, 2, 0, 0, false), NONE);
        CHECK.due("a field has no word 7", f.x.found(2, 1, 7, 1, false), NONE);
    }

    private static void promise13Selected() {
        Forge f = new Forge();
        f.type(1, 0, Forge.FACE, 0).type(2, 0, Forge.FACE, 0).type(3, 0, 0, 0, 1, 2).type(4, 0, 0, 3);
        CHECK.due("none", f.x.selected(4, 1, 0, false), NONE);
        f.member(1, 1, 0, Forge.METHOD | Forge.STATIC);
        int ofFace = f.method(2, 1);
        CHECK.due("of a face, not static", f.x.selected(4, 1, 0, false), ofFace);
        f.member(4, 1, 0, Forge.METHOD | Forge.PRIVATE);
        CHECK.due("a private one is passed over", f.x.selected(4, 1, 0, false), ofFace);
        f.field(3, 1);
        CHECK.due("a field is passed over", f.x.selected(4, 1, 0, false), ofFace);
        int up = f.method(3, 1);
        CHECK.due("first in the line", f.x.selected(4, 1, 0, false), up);
        CHECK.due("for class 0", f.x.selected(0, 0, 0, false), 0);
        CHECK.due("another shape", f.x.selected(4, 1, 1, false), NONE);
        f.x.remove(up);
        CHECK.due("gone", f.x.selected(4, 1, 0, false), ofFace);
    }

    private static void promise13SelectedNeeded() {
        Forge f = new Forge();
        f.type(1, 0, 0, 0).type(2, 1, 0, 1);
        int up = f.method(1, 1);
        int down = f.method(2, 1);
        CHECK.due("neither is needed", f.x.selected(2, 1, 0, true), NONE);
        CHECK.due("member 0 is", f.x.selected(2, 0, 0, true), 0);
        f.rule("keep class o.B { m s; }");
        CHECK.due("just the upper one is needed", f.x.selected(2, 1, 0, true), up);
        CHECK.due("of all", f.x.selected(2, 1, 0, false), down);
    }

    private static void promise13WrongNumbers() {
        Forge f = new Forge();
        f.type(1, 0, 0, 0);
        int[][] bad = {
            {-1, 0, 0}, {10, 0, 0}, {1, -1, 0}, {1, 8, 0}, {1, 0, -1}, {1, 0, 2}, {FAR, FAR, FAR}, {DEEP, DEEP, DEEP}, {2, 0, 2}
        };
        for (int[] b : bad) {
            CHECK.due("selected with a bad number", f.x.selected(b[0], b[1], b[2], true), REFUSED);
        }
        CHECK.due("not there", f.x.selected(2, 0, 0, false), NONE);
    }
}
