/** Promise 3: drop. */
public final class Promise03DropTest {
    private static final Check CHECK = new Check();

    public static void main(String[] args) {
        CHECK.runAll(Promise03DropTest.class);
    }

    /** "CLASS c (1 to 9) is THERE no more" */
    static void promise3ThereNoMore() {
        Forge f = new Forge();
        f.withPlain(9);
        for (int c = 1; c <= 9; c++) {
            CHECK.due("drop(" + c + ")", f.drop(c), true);
            CHECK.due("so many are left", f.count(0), 10 - c);
            CHECK.due("it has no needs", f.needs(c, 0), Forge.NONE);
            CHECK.due("it can have no member", f.member(c, 1, 0, 1), Forge.REFUSED);
            CHECK.due("nothing is found from it", f.found(Forge.VIRTUAL, c, 0, 0, false), Forge.NONE);
            CHECK.due("nothing is selected for it", f.selected(c, 0, 0, false), Forge.NONE);
        }
    }

    /** "its MEMBERS are GONE" */
    static void promise3MembersAreGone() {
        Forge f = new Forge();
        f.withPlain(2);
        int method = f.method(1, 1);
        int other = f.method(2, 1);
        int field = f.added(1, 1, 1, Forge.STATIC | Forge.PRIVATE);
        CHECK.due("drop(1)", f.drop(1), true);
        CHECK.due("its method", f.part(method, 2), Forge.NONE);
        CHECK.due("its field", f.part(field, 2), Forge.NONE);
        CHECK.due("another's", f.part(other, 2), 2);
        CHECK.due("how many are left", f.count(1), 2);
        CHECK.due("remove of one", f.remove(method), false);
        CHECK.due("refer of one", f.refer(method, 0, 0, 0, 0), Forge.REFUSED);
    }

    /** "it may be GONE (for good)" */
    static void promise3GoneForGood() {
        Forge f = new Forge();
        f.with(1, 0, 0, 0);
        int gone = f.method(1, 1);
        f.drop(1);
        f.with(1, 0, 0, 0);
        CHECK.due("the member does not come back", f.part(gone, 2), Forge.NONE);
        CHECK.due("nor is it found", f.found(Forge.VIRTUAL, 1, 1, 0, false), Forge.NONE);
        CHECK.due("one like it takes the next number", f.member(1, 1, 0, 1), gone + 1);
        CHECK.due("the old one is still gone", f.part(gone, 2), Forge.NONE);
    }

    /** "false if it is not THERE" */
    static void promise3NotThere() {
        Forge f = new Forge();
        f.with(5, 0, 0, 0);
        for (int c = 1; c <= 9; c++) {
            if (c != 5) {
                CHECK.due("drop(" + c + ")", f.drop(c), false);
            }
        }
        CHECK.due("drop(5)", f.drop(5), true);
        CHECK.due("drop(5) again", f.drop(5), false);
        f.with(5, 0, 0, 0);
        CHECK.due("drop(5) when it is there again", f.drop(5), true);
        f.with(5, 0, 0, 0).clear(true);
        CHECK.due("drop(5) after clear(true)", f.drop(5), false);
    }

    /** "or no such CLASS", and CLASS 0 "is always THERE" */
    static void promise3NoSuchClass() {
        Forge f = new Forge();
        f.withPlain(9);
        for (int c : Forge.outside(1, 9)) {
            CHECK.due("drop(" + c + ")", f.drop(c), false);
        }
        CHECK.due("all are there", f.count(0), 10);
        CHECK.due("class 0 too", f.needs(0, 0), 1);
        CHECK.due("member 0 too", f.part(0, 0), 1);
    }

    static void promise3FalseChangesNothing() {
        Forge f = new Forge();
        f.withPlain(2);
        int m = f.method(1, 1);
        f.refers(m, Forge.NEW, 2, 0).ruled("keep class o.B { m s; }").write("ab");
        String before = f.counts();
        for (int c : new int[] {0, 3, 9, 10, -1, Integer.MIN_VALUE}) {
            CHECK.due("drop(" + c + ")", f.drop(c), false);
            CHECK.due("all is as before", f.counts(), before);
        }
        CHECK.due("the draft too", f.letter('c'), 3);
    }

    /** Nothing says that REFERENCES or RULES go with a CLASS. */
    static void promise3ReferencesAndRulesStay() {
        Forge f = new Forge();
        f.withPlain(3);
        int from = f.method(1, 1);
        f.refers(from, Forge.NEW, 2, 0).refers(f.method(2, 1), Forge.NEW, 3, 0);
        f.ruled("keep class o.B { m s; }");
        f.ruled("keepnames class o.C");
        f.write("ab");
        CHECK.due("before", f.counts(), "4 3 2 2 3 2 3 2 1 0");
        f.drop(2);
        CHECK.due("after", f.counts(), "3 2 2 2 2 1 2 2 1 1");
        CHECK.due("the draft", f.letter('c'), 3);
        f.with(2, 0, 0, 0);
        CHECK.due("the rule is about it again", f.needs(2, 5), 1);
        CHECK.due("and it is needed again", f.state(2), "111");
    }

    /** A CLASS whose SUPER or FACE is dropped stands right under CLASS 0. */
    static void promise3WhatStoodUnderIt() {
        Forge f = new Forge();
        f.with(1, 0, Forge.FACE, 0).with(2, 0, 0, 0).with(3, 0, 0, 2, 1);
        int ofSuper = f.method(2, 1);
        int ofFace = f.method(1, 2);
        CHECK.due("found in the super", f.found(Forge.VIRTUAL, 3, 1, 0, false), ofSuper);
        CHECK.due("found in the face", f.found(Forge.VIRTUAL, 3, 2, 0, false), ofFace);
        f.drop(2);
        CHECK.due("not any more", f.found(Forge.VIRTUAL, 3, 1, 0, false), Forge.NONE);
        CHECK.due("above it", f.needs(3, 4), 2);
        f.drop(1);
        CHECK.due("nor in the face", f.found(Forge.VIRTUAL, 3, 2, 0, false), Forge.NONE);
        CHECK.due("above it is class 0", f.needs(3, 4), 1);
    }
}
