/** Promise 11: part, and which WORDS and SHAPES keep their text. */
public final class Promise11PartTest {
    private static final Check CHECK = new Check();

    public static void main(String[] args) {
        CHECK.runAll(Promise11PartTest.class);
    }

    /** "REFUSED for another what" */
    static void promise11RefusedForAnotherWhat() {
        Forge f = new Forge();
        f.with(1, 0, 0, 0);
        int m = f.method(1, 1);
        for (int what : Forge.outside(0, 5)) {
            CHECK.due("part(m, " + what + ")", f.part(m, what), Forge.REFUSED);
            CHECK.due("part(0, " + what + ")", f.part(0, what), Forge.REFUSED);
        }
    }

    /** "NONE if there is none such" */
    static void promise11NoneSuch() {
        Forge f = new Forge();
        f.with(1, 0, 0, 0);
        int last = f.method(1, 1);
        for (int what = 0; what <= 5; what++) {
            CHECK.due("part(" + (last + 1) + ", " + what + ")", f.part(last + 1, what), Forge.NONE);
            for (int m : Forge.outside(0, 39)) {
                CHECK.due("part(" + m + ", " + what + ")", f.part(m, what), Forge.NONE);
            }
        }
    }

    /** The last number that a MEMBER can have, and the one behind it. */
    static void promise11LastNumber() {
        Forge f = new Forge();
        f.withAllMembers().ruled("keep class ** { m *; }");
        CHECK.due("part(39, 0)", f.part(39, 0), 1);
        CHECK.due("part(39, 2)", f.part(39, 2), 3);
        CHECK.due("part(40, 2)", f.part(40, 2), Forge.NONE);
    }

    /** "or it is GONE" */
    static void promise11Gone() {
        Forge f = new Forge();
        f.withPlain(2);
        int removed = f.method(1, 1);
        int dropped = f.method(2, 1);
        f.remove(removed);
        f.drop(2);
        for (int what = 0; what <= 5; what++) {
            CHECK.due("removed: part(.., " + what + ")", f.part(removed, what), Forge.NONE);
            CHECK.due("dropped: part(.., " + what + ")", f.part(dropped, what), Forge.NONE);
        }
    }

    /** REFUSED stands before NONE in the sentence, and is told first. */
    static void promise11RefusedBeforeNone() {
        Forge f = new Forge();
        for (int m : new int[] {1, 40, -1, Integer.MIN_VALUE}) {
            CHECK.due("part(" + m + ", 6)", f.part(m, 6), Forge.REFUSED);
            CHECK.due("part(" + m + ", -1)", f.part(m, -1), Forge.REFUSED);
        }
    }

    /** "2: its CLASS, 3: its WORD, 4: its SHAPE, 5: flags", for the least and the greatest of each. */
    static void promise11ClassWordShapeAndFlags() {
        Forge f = new Forge();
        f.withPlain(9);
        int[][] all = {{1, 0, 0, 0}, {9, 7, 1, 7}, {9, 0, 0, 1}, {1, 5, 1, 6}, {4, 3, 1, 2}, {5, 6, 0, 5}, {2, 2, 0, 4}};
        for (int[] a : all) {
            int m = f.added(a[0], a[1], a[2], a[3]);
            for (int what = 2; what <= 5; what++) {
                CHECK.due("part(" + m + ", " + what + ")", f.part(m, what), a[what - 2]);
            }
        }
    }

    /** "0: 1 if it is NEEDED" */
    static void promise11Needed() {
        Forge f = new Forge();
        f.with(1, 0, 0, 0);
        int m = f.method(1, 1);
        CHECK.due("member 0", f.part(0, 0), 1);
        CHECK.due("not kept", f.part(m, 0), 0);
        f.ruled("keep class o.B { m s; }");
        CHECK.due("kept", f.part(m, 0), 1);
        f.clear(false);
        CHECK.due("not kept any more", f.part(m, 0), 0);
    }

    /** "1: 1 if its WORD and SHAPE keep their text (whether it is NEEDED or not)" */
    static void promise11KeptWhetherNeededOrNot() {
        Forge f = new Forge();
        f.with(1, 1, 0, 0).with(2, 0, 0, 0);
        int meant = f.method(1, 1);
        int alike = f.method(2, 1);
        f.ruled("keep class p.B { m s; }");
        CHECK.due("the one that is meant", f.part(meant, 1), 1);
        CHECK.due("one like it, not needed", f.part(alike, 0), 0);
        CHECK.due("keeps its text too", f.part(alike, 1), 1);
    }

    /** "WORD and SHAPE of FIELDS, or of METHODS" are kept each for itself. */
    static void promise11OtherKindWordAndShape() {
        for (int method = 0; method <= 1; method++) {
            Forge f = new Forge();
            f.with(1, 1, 0, 0).with(2, 0, 0, 0);
            int meant = f.added(1, 1, 0, method);
            int same = f.added(2, 1, 0, method | Forge.STATIC | Forge.PRIVATE);
            int otherShape = f.added(2, 1, 1, method);
            int otherWord = f.added(2, 2, 0, method);
            int otherKind = f.added(2, 1, 0, 1 - method);
            f.ruled("keepnames class p.B { x s; }");
            CHECK.due("the one that is meant", f.part(meant, 1), 1);
            CHECK.due("the same with other flags", f.part(same, 1), 1);
            CHECK.due("another shape", f.part(otherShape, 1), 0);
            CHECK.due("another word", f.part(otherWord, 1), 0);
            CHECK.due("another kind", f.part(otherKind, 1), 0);
        }
    }

    /** "meant by a RULE of any sort (for keepmembers only if its CLASS is NEEDED)" */
    static void promise11RulesOfAnySort() {
        for (String sort : new String[] {"keep", "keepnames", "keepmembers"}) {
            Forge f = new Forge();
            f.with(1, 1, 0, 0);
            int m = f.method(1, 1);
            f.ruled(sort + " class p.B { m s; }");
            CHECK.due("by " + sort, f.part(m, 1), sort.equals("keepmembers") ? 0 : 1);
            f.ruled("keep class p.B");
            CHECK.due("by " + sort + ", its class being needed", f.part(m, 1), 1);
        }
    }

    /** By keepmembers the CLASS of the MEMBER that is meant counts, not that of another like it. */
    static void promise11KeepMembersOfAnotherClass() {
        Forge f = new Forge();
        f.with(1, 1, 0, 0).with(2, 2, 0, 0);
        int meant = f.method(1, 1);
        int alike = f.method(2, 1);
        f.ruled("keepmembers class p.B { m s; }").ruled("keep class q.C");
        CHECK.due("its class is not needed", f.part(meant, 1), 0);
        CHECK.due("nor is the other kept", f.part(alike, 1), 0);
        f.ruled("keep class p.B");
        CHECK.due("its class is needed", f.part(meant, 1), 1);
        CHECK.due("the other is kept too", f.part(alike, 1), 1);
    }

    /** "METHODS also WORDS 6 and 7, and WORD 0 with SHAPE 0" */
    static void promise11WhatMethodsAlwaysKeep() {
        Forge f = new Forge();
        f.with(1, 0, 0, 0);
        for (int word = 0; word <= 7; word++) {
            for (int shape = 0; shape <= 1; shape++) {
                int m = f.added(1, word, shape, Forge.METHOD);
                boolean kept = word >= 6 || word == 0 && shape == 0;
                CHECK.due("method " + word + " with shape " + shape, f.part(m, 1), kept ? 1 : 0);
            }
        }
        CHECK.due("member 0", f.part(0, 1), 1);
    }

    /** FIELDS keep none by themselves, not even WORD 0 with SHAPE 0. */
    static void promise11FieldsKeepNone() {
        Forge f = new Forge();
        f.with(1, 0, 0, 0);
        for (int word = 0; word <= 5; word++) {
            for (int shape = 0; shape <= 1; shape++) {
                CHECK.due("field " + word + " with shape " + shape, f.part(f.added(1, word, shape, 0), 1), 0);
            }
        }
    }

    /** A MEMBER that is GONE is not meant, so its text is free. */
    static void promise11GoneIsNotMeant() {
        Forge f = new Forge();
        f.with(1, 1, 0, 0).with(2, 0, 0, 0);
        int meant = f.method(1, 1);
        int alike = f.method(2, 1);
        f.ruled("keepnames class p.B { m s; }");
        CHECK.due("before", f.part(alike, 1), 1);
        f.remove(meant);
        CHECK.due("after", f.part(alike, 1), 0);
    }
}
