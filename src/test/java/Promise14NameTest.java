/** Promise 14: name, and the new NAMES and texts. */
public final class Promise14NameTest {
    private static final Check CHECK = new Check();

    public static void main(String[] args) {
        CHECK.runAll(Promise14NameTest.class);
    }

    /** A kept CLASS 1, whose METHOD s is NEEDED and makes the REFERENCES of a test. */
    private static Forge keeper() {
        Forge f = new Forge();
        f.with(1, 1, 0, 0);
        f.method(1, 1);
        return f.ruled("keep class p.B { m s; }");
    }

    /** "Character k of the new NAME of CLASS c": one letter. */
    static void promise14NewName() {
        Forge f = keeper();
        f.with(2, 2, 0, 0).refers(1, Forge.TYPE, 2, 0);
        CHECK.due("how many", f.name(false, 2, -1), 1);
        CHECK.due("character 0", f.name(false, 2, 0), 'a');
        CHECK.due("character 1", f.name(false, 2, 1), Forge.NONE);
    }

    /** "or the old one, if that is kept": three characters. */
    static void promise14KeptName() {
        Forge f = keeper();
        CHECK.due("how many", f.name(false, 1, -1), 3);
        CHECK.due("character 0", f.name(false, 1, 0), 'p');
        CHECK.due("character 1", f.name(false, 1, 1), '.');
        CHECK.due("character 2", f.name(false, 1, 2), 'B');
        CHECK.due("character 3", f.name(false, 1, 3), Forge.NONE);
        CHECK.due("class 0", f.className(0), "o.A");
    }

    /** "with k = -1 how many there are. NONE for another k" */
    static void promise14AnotherK() {
        Forge f = keeper();
        f.with(2, 0, 0, 0).refers(1, Forge.TYPE, 2, 0).refers(1, Forge.SPECIAL, 2, Forge.CLINIT);
        int clinit = f.method(2, Forge.CLINIT);
        for (int k : Forge.outside(-1, 2)) {
            CHECK.due("name(false, 1, " + k + ")", f.name(false, 1, k), Forge.NONE);
        }
        for (int k : Forge.outside(-1, 0)) {
            CHECK.due("name(false, 2, " + k + ")", f.name(false, 2, k), Forge.NONE);
            CHECK.due("name(true, 1, " + k + ")", f.name(true, 1, k), Forge.NONE);
        }
        for (int k : Forge.outside(-1, 7)) {
            CHECK.due("name(true, " + clinit + ", " + k + ")", f.name(true, clinit, k), Forge.NONE);
        }
        CHECK.due("name(true, " + clinit + ", -1)", f.name(true, clinit, -1), 8);
        CHECK.due("name(true, " + clinit + ", 7)", f.name(true, clinit, 7), '>');
    }

    /** "or if it is not NEEDED" */
    static void promise14NotNeeded() {
        Forge f = keeper();
        f.with(2, 0, 0, 0);
        int other = f.method(1, 2);
        for (int k = -1; k <= 3; k++) {
            CHECK.due("name(false, 2, " + k + ")", f.name(false, 2, k), Forge.NONE);
            CHECK.due("name(true, " + other + ", " + k + ")", f.name(true, other, k), Forge.NONE);
        }
    }

    /** Not NEEDED, though its NAME or text is kept. */
    static void promise14KeptButNotNeeded() {
        Forge f = keeper();
        f.with(2, 0, 0, 0);
        int alike = f.method(2, 1);
        f.ruled("keepnames class o.C { m s; }");
        CHECK.due("the class keeps its name", f.needs(2, 3), 1);
        CHECK.due("the member keeps its text", f.part(alike, 1), 1);
        CHECK.due("the class has none", f.className(2), "none");
        CHECK.due("nor has the member", f.memberText(alike), "none");
    }

    /** "or none such" */
    static void promise14NoneSuch() {
        Forge f = new Forge();
        f.withAllMembers().ruled("keep class ** { m *; }");
        for (int k = -1; k <= 0; k++) {
            for (int c = 4; c <= 9; c++) {
                CHECK.due("name(false, " + c + ", " + k + ")", f.name(false, c, k), Forge.NONE);
            }
            for (int c : Forge.outside(0, 9)) {
                CHECK.due("name(false, " + c + ", " + k + ")", f.name(false, c, k), Forge.NONE);
            }
            for (int m : Forge.outside(0, 39)) {
                CHECK.due("name(true, " + m + ", " + k + ")", f.name(true, m, k), Forge.NONE);
            }
        }
        CHECK.due("the last member has one", f.name(true, 39, -1), 6);
        f.remove(39);
        CHECK.due("not when it is gone", f.name(true, 39, -1), Forge.NONE);
        f.drop(3);
        CHECK.due("nor has a class that went", f.name(false, 3, -1), Forge.NONE);
    }

    /** "those CLASSES that are NEEDED and do not keep theirs, by numbers, get the texts a, b, .." */
    static void promise14NewNamesByNumbers() {
        Forge f = keeper();
        f.with(2, 0, 0, 0).with(3, 0, 0, 0).with(4, 1, 0, 0).with(5, 0, 0, 0).with(6, 0, 0, 0);
        f.refers(1, Forge.TYPE, 6, 0).refers(1, Forge.TYPE, 4, 0).refers(1, Forge.TYPE, 2, 0).refers(1, Forge.TYPE, 5, 0);
        CHECK.due("class 2", f.className(2), "a");
        CHECK.due("class 3 is not needed", f.className(3), "none");
        CHECK.due("class 4", f.className(4), "b");
        CHECK.due("class 5", f.className(5), "c");
        CHECK.due("class 6", f.className(6), "d");
        f.ruled("keepnames class p.E");
        CHECK.due("class 4 is kept now", f.className(4), "p.E");
        CHECK.due("class 5 moves up", f.className(5), "b");
        CHECK.due("class 6 moves up", f.className(6), "c");
        f.refers(1, Forge.TYPE, 3, 0);
        CHECK.due("class 3 is needed now", f.className(3), "b");
        CHECK.due("class 6 moves back", f.className(6), "d");
    }

    /** The most new NAMES: CLASSES 2 to 9 beside the keeper. */
    static void promise14AllNewNames() {
        Forge f = keeper();
        for (int c = 2; c <= 9; c++) {
            f.with(c, c % 3, c % 2, 0).refers(1, Forge.TYPE, c, 0);
        }
        for (int c = 2; c <= 9; c++) {
            CHECK.due("class " + c, f.className(c), "" + (char) ('a' + c - 2));
        }
        f.ruled("keepnames class **");
        for (int c = 2; c <= 9; c++) {
            CHECK.due("class " + c + " kept", f.className(c), "opq".charAt(c % 3) + "." + (char) ('A' + c));
        }
    }

    /** "the WORDS that NEEDED MEMBERS have and that do not keep their text, by numbers" */
    static void promise14NewTextsByNumbers() {
        Forge f = keeper();
        f.with(2, 0, 0, 0).with(3, 0, 0, 0);
        int v = f.field(2, 4);
        int t = f.field(2, 2);
        int s = f.field(3, 1);
        int u = f.field(3, 3);
        int again = f.field(3, 4);
        f.refers(1, Forge.FIELD, 2, 4).refers(1, Forge.FIELD, 2, 2).refers(1, Forge.FIELD, 3, 1).refers(1, Forge.FIELD, 3, 4);
        CHECK.due("field s", f.memberText(s), "a");
        CHECK.due("field t", f.memberText(t), "b");
        CHECK.due("field u is not needed", f.memberText(u), "none");
        CHECK.due("field v", f.memberText(v), "c");
        CHECK.due("field v of another class", f.memberText(again), "c");
        f.ruled("keepnames class o.C { f t; }");
        CHECK.due("field t is kept", f.memberText(t), "t");
        CHECK.due("field v moves up", f.memberText(v), "b");
        f.refers(1, Forge.FIELD, 3, 3);
        CHECK.due("field u is needed now", f.memberText(u), "b");
        CHECK.due("field v moves back", f.memberText(v), "c");
    }

    /** "for FIELDS and METHODS each, and each SHAPE" */
    static void promise14EachKindAndShape() {
        Forge f = keeper();
        f.with(2, 0, 0, 0);
        for (int n = 0; n < 4; n++) {
            for (int word = 2 + n; word <= 5; word++) {
                int m = f.added(2, word, n % 2, n / 2);
                f.refers(1, n < 2 ? Forge.FIELD : Forge.SPECIAL, 2, word, n % 2);
                CHECK.due("word " + word + " kind " + n / 2 + " shape " + n % 2, f.memberText(m), "" + (char) ('a' + word - 2 - n));
            }
        }
    }

    /** The most new texts: six WORDS; "none that is the text of a WORD that keeps it" */
    static void promise14AllNewTexts() {
        Forge f = new Forge();
        f.with(1, 1, 0, 0).with(2, 0, 0, 0);
        int from = f.method(1, Forge.INIT);
        int[] fields = new int[6];
        for (int word = 0; word <= 5; word++) {
            fields[word] = f.field(2, word);
            f.refers(from, Forge.FIELD, 2, word);
        }
        f.ruled("keep class p.B { m <init>; }");
        for (int word = 0; word <= 5; word++) {
            CHECK.due("field " + word, f.memberText(fields[word]), "" + "abcdef".charAt(word));
        }
        f.ruled("keepnames class o.C { f r; f t; f w; }");
        String due = "ratbcw";
        for (int word = 0; word <= 5; word++) {
            CHECK.due("field " + word + ", three kept", f.memberText(fields[word]), "" + due.charAt(word));
        }
    }

    /** A kept text is kept for all that have its kind, WORD and SHAPE, so that what overrides still does. */
    static void promise14OverridingStays() {
        Forge f = keeper();
        f.with(2, 0, 0, 0).with(3, 0, 0, 2).with(4, 2, 0, 0);
        int up = f.method(2, 2);
        int down = f.method(3, 2);
        f.method(4, 2);
        f.refers(1, Forge.VIRTUAL, 2, 2).refers(1, Forge.NEW, 3, 0);
        CHECK.due("above", f.memberText(up), "a");
        CHECK.due("below", f.memberText(down), "a");
        f.ruled("keepnames class q.E { m t; }");
        CHECK.due("above, kept by one beside", f.memberText(up), "t");
        CHECK.due("below, kept by one beside", f.memberText(down), "t");
    }

    /** METHODS keep WORDS 6 and 7, and WORD 0 with SHAPE 0, but not with SHAPE 1; FIELDS do not. */
    static void promise14WhatMethodsKeep() {
        Forge f = keeper();
        f.with(2, 0, 0, 0);
        int init = f.method(2, Forge.INIT);
        int clinit = f.added(2, Forge.CLINIT, 1, Forge.METHOD);
        int called = f.method(2, 0);
        int shaped = f.added(2, 0, 1, Forge.METHOD);
        int field = f.field(2, 0);
        f.refers(1, Forge.SPECIAL, 2, 6).refers(1, Forge.SPECIAL, 2, 7, 1).refers(1, Forge.SPECIAL, 2, 0);
        f.refers(1, Forge.SPECIAL, 2, 0, 1).refers(1, Forge.FIELD, 2, 0);
        CHECK.due("method 6", f.memberText(init), "<init>");
        CHECK.due("method 7", f.memberText(clinit), "<clinit>");
        CHECK.due("method 0", f.memberText(called), "r");
        CHECK.due("method 0 with shape 1", f.memberText(shaped), "a");
        CHECK.due("field 0", f.memberText(field), "a");
        CHECK.due("member 0", f.memberText(0), "r");
    }
}
