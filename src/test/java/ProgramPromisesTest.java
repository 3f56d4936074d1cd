/** Promises 1 to 6 and 9: the program that is told. */
public final class ProgramPromisesTest {
    private static final Check CHECK = new Check();
    private static final int FAR = Integer.MAX_VALUE;
    private static final int DEEP = Integer.MIN_VALUE;

    public static void main(String[] args) {
        promise1NewObject();
        promise2Type();
        promise2TypeRefuses();
        promise2SuperThatDoesNotCount();
        promise3Drop();
        promise4Member();
        promise4MemberFull();
        promise5Remove();
        promise6Refer();
        promise6ReferFull();
        promise9Clear();
        promise9ClearLeavesNoTrace();
        changesShowAtOnce();
        CHECK.end("ProgramPromisesTest");
    }

    private static void counts(ShrinkForge x, String when, int... due) {
        for (int what = 0; what < due.length; what++) {
            CHECK.due(when + ": count(" + what + ")", x.count(what), due[what]);
        }
    }

    private static void promise1NewObject() {
        ShrinkForge x = new ShrinkForge();
        counts(x, "new", 1, 1, 0, 0, 1, 0, 0, 1, 0, 0);
        CHECK.due("class 0 is needed", x.needs(0, 0), 1);
        CHECK.due("class 1 is not there", x.needs(1, 0), ShrinkForge.NONE);
        CHECK.due("member 0 is of class 0", x.part(0, 2), 0);
        CHECK.due("member 0 is r", x.part(0, 3), 0);
        CHECK.due("member 0 has shape 0", x.part(0, 4), 0);
        CHECK.due("member 0 is a method", x.part(0, 5), Forge.METHOD);
        CHECK.due("no member 1", x.part(1, 0), ShrinkForge.NONE);
        CHECK.due("the draft is empty", x.letter('k'), 1);
        CHECK.due("class 0 is o.A", new Forge().className(0), "o.A");
    }

    private static void promise2Type() {
        Forge f = new Forge();
        CHECK.due("type", f.x.type(9, 2, 3, 8, 1023), true);
        CHECK.due("count of classes", f.x.count(0), 2);
        f.type(2, 1, Forge.FACE, 0).type(3, 0, 0, 0, 2);
        CHECK.due("a face counts", f.x.needs(3, 4), 2);
        int m = f.method(3, 1);
        f.type(3, 2, 0, 0);
        CHECK.due("its members stay", f.x.part(m, 2), 3);
        CHECK.due("type again: the faces are new", f.x.needs(3, 4), 1);
        f.rule("keepnames class q.D");
        CHECK.due("type again: the package is new", f.x.needs(3, 3), 1);
        f.type(2, 1, 0, 0).type(3, 0, 0, 0, 2);
        CHECK.due("one that is no face does not count", f.x.needs(3, 4), 1);
        f.type(2, 0, Forge.FACE, 0, 2, 3).type(3, 0, Forge.FACE, 0);
        CHECK.due("faces that are not below do not count", f.x.needs(2, 4), 1);
    }

    private static void promise2TypeRefuses() {
        ShrinkForge x = new ShrinkForge();
        x.type(5, 1, 0, 0, 0);
        int[][] bad = {
            {0, 0, 0, 0, 0}, {10, 0, 0, 0, 0}, {-1, 0, 0, 0, 0}, {FAR, 0, 0, 0, 0}, {DEEP, 0, 0, 0, 0},
            {5, 3, 0, 0, 0}, {5, -1, 0, 0, 0}, {5, 0, 4, 0, 0}, {5, 0, -1, 0, 0}, {5, 0, 0, 5, 0},
            {5, 0, 0, -1, 0}, {5, 0, 0, 0, 1024}, {5, 0, 0, 0, -1}, {1, 0, 0, 1, 0}, {5, FAR, DEEP, FAR, DEEP}
        };
        for (int[] b : bad) {
            CHECK.due("type with a bad number", x.type(b[0], b[1], b[2], b[3], b[4]), false);
        }
        CHECK.due("nothing came", x.count(0), 2);
        Forge f = new Forge();
        f.type(1, 1, 0, 0);
        f.x.type(1, 2, 0, 1, 0);
        f.rule("keepnames class p.B");
        CHECK.due("nothing changed", f.x.needs(1, 3), 1);
    }

    private static void promise2SuperThatDoesNotCount() {
        Forge f = new Forge();
        f.type(1, 0, 0, 0).type(2, 0, 0, 1).type(3, 0, 0, 2);
        CHECK.due("a line of four", f.x.needs(3, 4), 3);
        f.x.drop(2);
        CHECK.due("a super that is not there", f.x.needs(3, 4), 1);
        f.type(2, 0, 0, 1);
        CHECK.due("it is there again", f.x.needs(3, 4), 3);
        f.type(2, 0, Forge.FACE, 1);
        CHECK.due("a super that is a face", f.x.needs(3, 4), 1);
        CHECK.due("the super of a face", f.x.needs(2, 4), 1);
        f.type(4, 0, Forge.FACE, 0, 2).type(5, 0, 0, 1, 4).type(6, 0, 0, 5);
        CHECK.due("faces of faces of the line", f.x.needs(6, 4), 5);
    }

    private static void promise3Drop() {
        Forge f = new Forge();
        f.type(1, 0, 0, 0).type(2, 0, 0, 0);
        int gone = f.method(1, 1);
        int other = f.method(2, 1);
        f.refer(gone, Forge.TYPE, 2, 0);
        CHECK.due("drop", f.x.drop(1), true);
        CHECK.due("its class is not there", f.x.needs(1, 0), ShrinkForge.NONE);
        CHECK.due("its member is gone", f.x.part(gone, 2), ShrinkForge.NONE);
        CHECK.due("another's is not", f.x.part(other, 2), 2);
        counts(f.x, "after drop", 2, 2, 1);
        CHECK.due("drop again", f.x.drop(1), false);
        f.type(1, 0, 0, 0);
        CHECK.due("gone for good", f.x.part(gone, 2), ShrinkForge.NONE);
        CHECK.due("a new one takes a new number", f.x.member(1, 1, 0, 1), 3);
        for (int c : new int[] {0, 3, 10, -1, 64, FAR, DEEP}) {
            CHECK.due("drop(" + c + ")", f.x.drop(c), false);
        }
    }

    private static void promise4Member() {
        ShrinkForge x = new ShrinkForge();
        x.type(1, 0, 0, 0, 0);
        CHECK.due("a method", x.member(1, 7, 1, 7), 1);
        CHECK.due("a field", x.member(1, 5, 1, 6), 2);
        CHECK.due("same word and shape, another kind", x.member(1, 5, 1, 1), 3);
        CHECK.due("another shape", x.member(1, 5, 0, 1), 4);
        CHECK.due("the same", x.member(1, 5, 0, 1), ShrinkForge.REFUSED);
        CHECK.due("the same but for static", x.member(1, 5, 0, 3), ShrinkForge.REFUSED);
        CHECK.due("flags are told", x.part(1, 5), 7);
        int[][] bad = {
            {0, 1, 0, 1}, {2, 0, 0, 1}, {10, 0, 0, 1}, {-1, 0, 0, 1}, {1, 8, 0, 1}, {1, -1, 0, 1}, {1, 6, 0, 0},
            {1, 7, 0, 6}, {1, 0, 2, 1}, {1, 0, -1, 1}, {1, 0, 0, 8}, {1, 0, 0, -1}, {FAR, FAR, FAR, FAR}
        };
        for (int[] b : bad) {
            CHECK.due("member with a bad number", x.member(b[0], b[1], b[2], b[3]), ShrinkForge.REFUSED);
        }
        x.remove(4);
        CHECK.due("one like it was gone", x.member(1, 5, 0, 1), 5);
    }

    private static void promise4MemberFull() {
        Forge f = new Forge();
        f.type(1, 0, 0, 0).type(2, 0, 0, 0).type(3, 0, 0, 0);
        for (int n = 0; n < 39; n++) {
            CHECK.due("member " + (n + 1), f.x.member(1 + n / 16, n % 8, n / 8 % 2, 1), n + 1);
        }
        CHECK.due("with 40", f.x.member(1, 0, 0, 0), ShrinkForge.FULL);
        CHECK.due("refused before full", f.x.member(1, 6, 0, 0), ShrinkForge.REFUSED);
        CHECK.due("refused before full: there is one", f.x.member(1, 0, 0, 1), ShrinkForge.REFUSED);
        f.x.remove(5);
        CHECK.due("those that are gone count", f.x.member(1, 0, 0, 0), ShrinkForge.FULL);
    }

    private static void promise5Remove() {
        Forge f = new Forge();
        f.type(1, 0, 0, 0);
        int m = f.method(1, 1);
        f.refer(m, Forge.NEW, 1, 0);
        CHECK.due("remove", f.x.remove(m), true);
        CHECK.due("it is gone", f.x.part(m, 3), ShrinkForge.NONE);
        CHECK.due("nothing is found", f.x.found(5, 1, 1, 0, false), ShrinkForge.NONE);
        CHECK.due("remove again", f.x.remove(m), false);
        counts(f.x, "after remove", 2, 1, 1);
        for (int other : new int[] {0, 2, -1, 40, 64, FAR, DEEP}) {
            CHECK.due("remove(" + other + ")", f.x.remove(other), false);
        }
    }

    private static void promise6Refer() {
        Forge f = new Forge();
        f.type(1, 0, 0, 0);
        int m = f.method(1, 1);
        int field = f.field(1, 1);
        int gone = f.method(1, 2);
        f.x.remove(gone);
        CHECK.due("refer", f.x.refer(m, 5, 9, 7, 1), 1);
        CHECK.due("refer again", f.x.refer(m, 5, 9, 7, 1), 2);
        CHECK.due("a field may have any word there", f.x.refer(m, 2, 0, 7, 0), 3);
        for (int other : new int[] {0, field, gone, 4, -1, FAR, DEEP}) {
            CHECK.due("refer of " + other, f.x.refer(other, 0, 0, 0, 0), ShrinkForge.REFUSED);
        }
        int[][] bad = {
            {6, 0, 0, 0}, {-1, 0, 0, 0}, {0, 10, 0, 0}, {0, -1, 0, 0}, {0, 0, 8, 0}, {0, 0, -1, 0},
            {0, 0, 0, 2}, {0, 0, 0, -1}, {1, 0, 8, 0}, {FAR, DEEP, FAR, DEEP}
        };
        for (int[] b : bad) {
            CHECK.due("refer with a bad number", f.x.refer(m, b[0], b[1], b[2], b[3]), ShrinkForge.REFUSED);
        }
        CHECK.due("just the good ones came", f.x.count(2), 3);
    }

    private static void promise6ReferFull() {
        Forge f = new Forge();
        f.type(1, 0, 0, 0);
        int m = f.method(1, 1);
        for (int n = 1; n <= 60; n++) {
            CHECK.due("reference " + n, f.x.refer(m, 1, 0, 0, 0), n);
        }
        CHECK.due("with 60", f.x.refer(m, 1, 0, 0, 0), ShrinkForge.FULL);
        CHECK.due("refused before full", f.x.refer(m, 6, 0, 0, 0), ShrinkForge.REFUSED);
        CHECK.due("still 60", f.x.count(2), 60);
    }

    private static void promise9Clear() {
        Forge f = new Forge();
        f.type(1, 1, 0, 0);
        int m = f.method(1, 1);
        f.refer(m, Forge.NEW, 1, 0);
        f.rule("keep class p.B");
        f.rule("keep class **");
        f.draft("abc");
        CHECK.due("clear(false)", f.x.clear(false), 2);
        counts(f.x, "after clear(false)", 2, 2, 1, 0, 1);
        CHECK.due("the draft is empty", f.x.letter('k'), 1);
        CHECK.due("clear(true)", f.x.clear(true), 0);
        counts(f.x, "after clear(true)", 1, 1, 0, 0, 1, 0, 0, 1, 0, 0);
        CHECK.due("the draft is empty again", f.x.letter('k'), 1);
        CHECK.due("class 1 is not there", f.x.member(1, 1, 0, 1), ShrinkForge.REFUSED);
        f.type(1, 0, 0, 0);
        CHECK.due("numbers begin anew", f.x.member(1, 1, 0, 1), 1);
        CHECK.due("member 0 is found", f.x.found(5, 1, 0, 0, true), 0);
        f.x.clear(false);
        f.rule("keep class o.B");
        CHECK.due("clear(true) tells how many rules there were", f.x.clear(true), 1);
    }

    private static void promise9ClearLeavesNoTrace() {
        Forge f = new Forge();
        f.type(1, 0, Forge.FACE, 0).type(2, 0, 0, 0, 1);
        f.method(2, 1);
        f.x.clear(true);
        f.type(2, 0, 0, 0, 1);
        CHECK.due("the face is not there", f.x.needs(2, 4), 1);
        f.member(2, 1, 0, Forge.METHOD | Forge.STATIC);
        CHECK.due("member 1 is a static one now", f.x.selected(2, 1, 0, false), ShrinkForge.NONE);
    }

    /** Each change is asked about right before and right after it. */
    private static void changesShowAtOnce() {
        Forge f = new Forge();
        f.rule("keep class ** { m *; }");
        counts(f.x, "a rule", 1, 1, 0, 1, 1, 0, 0, 1, 0, 0);
        f.type(1, 0, 0, 0);
        counts(f.x, "type", 2, 1, 0, 1, 2, 1, 2, 1, 0, 0);
        int m = f.method(1, 1);
        counts(f.x, "member", 2, 2, 0, 1, 2, 1, 2, 2, 0, 0);
        f.refer(m, Forge.NEW, 0, 0);
        counts(f.x, "refer", 2, 2, 1, 1, 2, 2, 2, 2, 1, 0);
        f.x.remove(m);
        counts(f.x, "remove", 2, 1, 1, 1, 2, 1, 2, 1, 0, 0);
        f.x.drop(1);
        counts(f.x, "drop", 1, 1, 1, 1, 1, 0, 0, 1, 0, 0);
        f.type(1, 0, Forge.ABSTRACT, 0);
        counts(f.x, "type again", 2, 1, 1, 1, 2, 0, 2, 1, 0, 0);
        f.x.clear(false);
        counts(f.x, "clear(false)", 2, 1, 1, 0, 1, 0, 0, 1, 0, 0);
        f.rule("keep class o.B");
        counts(f.x, "rule", 2, 1, 1, 1, 2, 0, 2, 1, 0, 0);
        f.x.clear(true);
        counts(f.x, "clear(true)", 1, 1, 0, 0, 1, 0, 0, 1, 0, 0);
    }
}
