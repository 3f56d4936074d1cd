/** Promise 10: needs, and what brings CLASSES to be NEEDED, MADE and STARTED. */
public final class Promise10NeedsTest {
    private static final Check CHECK = new Check();

    public static void main(String[] args) {
        CHECK.runAll(Promise10NeedsTest.class);
    }

    private static void state(Forge f, String which, int c, String due) {
        CHECK.due(which + ": needed, made, started", f.state(c), due);
    }

    private static void needed(Forge f, String which, int m, boolean due) {
        CHECK.due(which + " is needed", f.part(m, 0), due ? 1 : 0);
    }

    /** A kept CLASS 1, whose METHOD s is NEEDED and makes the REFERENCES of a test. */
    private static Forge keeper() {
        Forge f = new Forge();
        f.with(1, 1, 0, 0);
        f.method(1, 1);
        return f.ruled("keep class p.B { m s; }");
    }

    // ---- the numbers

    /** "REFUSED for others" */
    static void promise10RefusedForOthers() {
        Forge f = new Forge();
        f.with(1, 0, 0, 0);
        for (int what : Forge.outside(0, 5)) {
            CHECK.due("needs(1, " + what + ")", f.needs(1, what), Forge.REFUSED);
            CHECK.due("needs(0, " + what + ")", f.needs(0, what), Forge.REFUSED);
        }
        for (int what = 0; what <= 4; what++) {
            CHECK.due("needs(1, " + what + ")", f.needs(1, what), what == 4 ? 1 : 0);
        }
        CHECK.due("needs(1, 5)", f.needs(1, 5), Forge.NONE);
    }

    /** "NONE if it is not THERE" */
    static void promise10NoneIfNotThere() {
        Forge f = new Forge();
        f.with(5, 0, 0, 0).with(6, 0, 0, 0);
        f.drop(6);
        for (int what = 0; what <= 5; what++) {
            for (int c = 1; c <= 9; c++) {
                if (c != 5) {
                    CHECK.due("needs(" + c + ", " + what + ")", f.needs(c, what), Forge.NONE);
                }
            }
        }
        CHECK.due("class 5 is there", f.needs(5, 0), 0);
    }

    /** "or there is no such CLASS" */
    static void promise10NoneIfNoSuchClass() {
        Forge f = new Forge();
        f.withPlain(9).ruled("keep class **");
        for (int what = 0; what <= 5; what++) {
            for (int c : Forge.outside(0, 9)) {
                CHECK.due("needs(" + c + ", " + what + ")", f.needs(c, what), Forge.NONE);
            }
        }
    }

    /** REFUSED stands before NONE in the sentence, and is told first. */
    static void promise10RefusedBeforeNone() {
        Forge f = new Forge();
        for (int c : new int[] {1, 9, 10, -1, Integer.MAX_VALUE}) {
            CHECK.due("needs(" + c + ", 6)", f.needs(c, 6), Forge.REFUSED);
            CHECK.due("needs(" + c + ", -1)", f.needs(c, -1), Forge.REFUSED);
        }
    }

    /** "4: how many CLASSES are ABOVE it" */
    static void promise10HowManyAreAbove() {
        Forge f = new Forge();
        f.with(1, 0, Forge.FACE, 0).with(2, 0, Forge.FACE, 0, 1).with(3, 0, 0, 0, 2).with(4, 0, 0, 3);
        int[] due = {0, 1, 2, 3, 4};
        for (int c = 0; c <= 4; c++) {
            CHECK.due("needs(" + c + ", 4)", f.needs(c, 4), due[c]);
        }
        for (int c = 5; c <= 9; c++) {
            f.with(c, 0, 0, c - 1);
        }
        CHECK.due("all but itself", f.needs(9, 4), 9);
    }

    /** "5: the greatest RULE (from 0) that is ABOUT it" */
    static void promise10GreatestRule() {
        Forge f = new Forge();
        f.with(1, 0, 0, 0).with(2, 1, 0, 0);
        String[] sorts = {"keep", "keepnames", "keepmembers"};
        for (int rule = 0; rule < 8; rule++) {
            f.ruled(sorts[rule % 3] + " class " + (rule % 2 == 0 ? "o.B" : "p.C"));
            CHECK.due("for class 1", f.needs(1, 5), rule - rule % 2);
            CHECK.due("for class 2", f.needs(2, 5), rule == 0 ? Forge.NONE : rule - 1 + rule % 2);
        }
    }

    /** "(NONE without)" */
    static void promise10NoRuleAboutIt() {
        Forge f = new Forge();
        f.with(1, 0, 0, 0);
        CHECK.due("no rules", f.needs(1, 5), Forge.NONE);
        f.ruled("keep class p.*");
        CHECK.due("one about others", f.needs(1, 5), Forge.NONE);
        f.ruled("keep class **");
        CHECK.due("none is about class 0", f.needs(0, 5), Forge.NONE);
        CHECK.due("one is about class 1", f.needs(1, 5), 1);
        f.clear(false);
        CHECK.due("no rules again", f.needs(1, 5), Forge.NONE);
    }

    /** "3: 1 if it keeps its NAME": "if it is 0, or a RULE with keep or keepnames is ABOUT it" */
    static void promise10KeepsItsName() {
        Forge f = new Forge();
        f.with(1, 0, 0, 0).with(2, 1, 0, 0).with(3, 2, 0, 0);
        CHECK.due("class 0", f.needs(0, 3), 1);
        CHECK.due("class 1 without rules", f.needs(1, 3), 0);
        f.ruled("keepmembers class ** { x *; }");
        CHECK.due("by keepmembers", f.needs(1, 3), 0);
        f.ruled("keep class o.*");
        CHECK.due("by keep", f.needs(1, 3), 1);
        f.ruled("keepnames class p.*");
        CHECK.due("by keepnames", f.needs(2, 3), 1);
        CHECK.due("another", f.needs(3, 3), 0);
        CHECK.due("by keepnames it is not needed", f.needs(2, 0), 0);
    }

    // ---- what brings what

    /** "CLASS 0, and MEMBER 0" */
    static void promise10Class0AndMember0() {
        Forge f = new Forge();
        state(f, "class 0 in a new object", 0, "100");
        needed(f, "member 0", 0, true);
        f.withPlain(9);
        CHECK.due("nothing else", f.count(4) + f.count(7), 2);
    }

    /** "By keep: a CLASS that a RULE is ABOUT; it is STARTED, and .. MADE; and the MEMBERS meant." */
    static void promise10Keep() {
        Forge f = new Forge();
        f.with(4, 1, 0, 0).with(5, 0, 0, 0);
        int meant = f.method(4, 1);
        int field = f.added(4, 1, 1, Forge.PRIVATE);
        int other = f.method(4, 2);
        int beside = f.method(5, 1);
        state(f, "before", 4, "000");
        f.ruled("keep class p.E { x s; }");
        state(f, "the class", 4, "111");
        state(f, "another", 5, "000");
        needed(f, "a method meant", meant, true);
        needed(f, "a private field meant", field, true);
        needed(f, "another method", other, false);
        needed(f, "one of another class", beside, false);
    }

    /** "if it is neither ABSTRACT nor a FACE, MADE" */
    static void promise10KeepAbstractAndFace() {
        Forge f = new Forge();
        f.with(1, 0, Forge.ABSTRACT, 0).with(2, 0, Forge.FACE, 0).with(3, 0, Forge.FACE | Forge.ABSTRACT, 0);
        f.ruled("keep class **");
        state(f, "an abstract class", 1, "101");
        state(f, "a face", 2, "101");
        state(f, "an abstract face", 3, "101");
        state(f, "their super", 0, "101");
    }

    /** Each RULE brings its own. */
    static void promise10KeepTwice() {
        Forge f = new Forge();
        f.withPlain(3);
        int first = f.method(1, 1);
        int second = f.method(2, 1);
        f.ruled("keep class o.B { m s; }").ruled("keep class o.C { m s; }");
        state(f, "of the first rule", 1, "111");
        state(f, "of the second rule", 2, "111");
        state(f, "of none", 3, "000");
        needed(f, "meant by the first", first, true);
        needed(f, "meant by the second", second, true);
    }

    /** All eight RULES count, also without MEMBERS. */
    static void promise10KeepEightTimes() {
        Forge f = new Forge();
        f.withPlain(9);
        for (int c = 1; c <= 8; c++) {
            f.ruled("keep class o." + "ABCDEFGHIJ".charAt(c));
        }
        for (int c = 1; c <= 8; c++) {
            state(f, "class " + c, c, "111");
        }
        state(f, "class 9", 9, "000");
    }

    /** "By keepmembers: the MEMBERS meant of a CLASS that is NEEDED." */
    static void promise10KeepMembers() {
        Forge f = keeper();
        f.with(2, 0, 0, 0).with(3, 0, 0, 0);
        int held = f.method(2, 2);
        int other = f.method(2, 3);
        int loose = f.method(3, 2);
        f.ruled("keepmembers class ** { m t; }");
        state(f, "not needed yet", 2, "000");
        needed(f, "a member of a class that is not needed", held, false);
        f.refers(1, Forge.TYPE, 2, 0);
        state(f, "needed now", 2, "100");
        needed(f, "a member of a class that is needed", held, true);
        needed(f, "one that is not meant", other, false);
        needed(f, "a member of a third class", loose, false);
        f.refers(held, Forge.TYPE, 3, 0);
        needed(f, "a member that comes by one held so", loose, true);
    }

    /** By keepmembers as the first RULE, and as the last of eight. */
    static void promise10KeepMembersFirstAndLast() {
        Forge f = new Forge();
        f.with(1, 0, 0, 0);
        int first = f.method(1, 1);
        int last = f.method(1, 2);
        f.ruled("keepmembers class o.B { m s; }");
        for (int rule = 1; rule <= 6; rule++) {
            f.ruled("keep class o.B");
        }
        needed(f, "by the first rule", first, true);
        needed(f, "by none yet", last, false);
        f.ruled("keepmembers class o.B { m t; }");
        needed(f, "by the last rule", last, true);
    }

    /** By keepmembers in a program that is full. */
    static void promise10KeepMembersOfAll40() {
        Forge f = new Forge();
        f.withAllMembers().with(1, 1, 0, 0).with(3, 1, 0, 0);
        f.ruled("keepmembers class ** { m *; }").ruled("keep class p.D");
        CHECK.due("member 0 and seven of class 3", f.count(7), 8);
        needed(f, "the last member", 39, true);
        needed(f, "one of a class that is not needed", 1, false);
        f.ruled("keep class **");
        CHECK.due("all", f.count(7), 40);
    }

    /** Keepnames brings nothing, neither to a CLASS that is NEEDED nor to another. */
    static void promise10KeepNames() {
        Forge f = new Forge();
        f.with(1, 0, 0, 0);
        int m = f.method(1, 1);
        f.ruled("keepnames class ** { x *; }");
        state(f, "a class by keepnames", 1, "000");
        needed(f, "a member by keepnames", m, false);
        f.ruled("keep class o.B");
        state(f, "the class by keep", 1, "111");
        needed(f, "its member", m, false);
    }

    /** "The SUPER and FACES of a CLASS that is NEEDED" */
    static void promise10SuperAndFaces() {
        Forge f = keeper();
        f.with(2, 0, Forge.FACE, 0).with(3, 0, Forge.FACE, 0, 2).with(4, 0, 0, 0).with(5, 0, 0, 4, 3).with(6, 0, 0, 5);
        f.with(7, 0, 0, 0);
        f.refers(1, Forge.TYPE, 6, 0);
        for (int c = 2; c <= 6; c++) {
            state(f, "class " + c, c, "100");
        }
        state(f, "one that is not above", 7, "000");
        f.drop(5);
        state(f, "the super is not there", 4, "000");
        state(f, "its face", 3, "000");
    }

    /** "the CLASS of a MEMBER that is NEEDED" */
    static void promise10ClassOfAMember() {
        Forge f = keeper();
        f.with(2, 0, Forge.FACE, 0).with(3, 0, Forge.FACE, 0, 2).with(4, 0, 0, 0, 3);
        f.method(2, 2);
        f.refers(1, Forge.VIRTUAL, 4, 2);
        state(f, "the class of what is found", 2, "100");
        f.with(5, 0, 0, 0).with(6, 0, 0, 5);
        int up = f.method(5, 0);
        f.refers(1, Forge.NEW, 6, 0);
        needed(f, "what the library calls", up, true);
        state(f, "its class", 5, "101");
    }

    /** "The SUPER of one that is STARTED is STARTED" */
    static void promise10SuperIsStarted() {
        Forge f = new Forge();
        f.with(1, 0, Forge.FACE, 0).with(2, 0, Forge.ABSTRACT, 0, 1).with(3, 0, 0, 2).with(4, 1, 0, 3);
        f.ruled("keep class p.*");
        state(f, "itself", 4, "111");
        state(f, "its super", 3, "101");
        state(f, "its super's", 2, "101");
        state(f, "class 0", 0, "101");
        state(f, "a face is not", 1, "100");
    }

    /** The SUPER of a FACE is CLASS 0, so that starts too. */
    static void promise10SuperOfAStartedFace() {
        Forge f = new Forge();
        f.with(1, 0, 0, 0).with(2, 1, Forge.FACE, 1).ruled("keep class p.*");
        state(f, "the face", 2, "101");
        state(f, "class 0", 0, "101");
        state(f, "what was said to be its super", 1, "000");
    }

    /** "the METHOD 7 with SHAPE 0, if it is STATIC, of one that is STARTED is NEEDED" */
    static void promise10Starts() {
        Forge f = new Forge();
        f.with(1, 0, Forge.ABSTRACT, 0).with(2, 0, 0, 1).with(3, 1, 0, 2).with(4, 0, 0, 0);
        int ofSuper = f.added(1, Forge.CLINIT, 0, Forge.METHOD | Forge.STATIC);
        int notStatic = f.added(2, Forge.CLINIT, 0, Forge.METHOD);
        int otherShape = f.added(3, Forge.CLINIT, 1, Forge.METHOD | Forge.STATIC);
        int hidden = f.added(3, Forge.CLINIT, 0, Forge.METHOD | Forge.STATIC | Forge.PRIVATE);
        int init = f.added(3, Forge.INIT, 0, Forge.METHOD | Forge.STATIC);
        int loose = f.added(4, Forge.CLINIT, 0, Forge.METHOD | Forge.STATIC);
        f.refers(ofSuper, Forge.TYPE, 4, 0).ruled("keep class p.D");
        needed(f, "the start of a super", ofSuper, true);
        needed(f, "one that is not static", notStatic, false);
        needed(f, "one with shape 1", otherShape, false);
        needed(f, "a private one", hidden, true);
        needed(f, "method 6", init, false);
        needed(f, "one of a class that is needed, not started", loose, false);
        state(f, "that class", 4, "100");
        f.remove(ofSuper);
        state(f, "that class, when the start is gone", 4, "000");
    }

    /** "By a REFERENCE of a METHOD that is NEEDED", and not of another. */
    static void promise10ReferencesOfNeededMethods() {
        Forge f = keeper();
        f.withPlain(4).with(1, 1, 0, 0);
        int other = f.method(1, 2);
        int next = f.method(2, 1);
        f.refers(other, Forge.NEW, 3, 0);
        state(f, "by a method that is not needed", 3, "000");
        f.refers(1, Forge.SPECIAL, 2, 1).refers(next, Forge.NEW, 4, 0);
        state(f, "by a method that another one needs", 4, "111");
        f.remove(1);
        state(f, "by one that is gone", 2, "000");
        state(f, "and what came by that", 4, "000");
    }

    /** "c, if it is THERE", for all KINDS. */
    static void promise10ClassOfAReference() {
        for (int kind = Forge.NEW; kind <= Forge.VIRTUAL; kind++) {
            Forge f = keeper();
            f.refers(1, kind, 9, 4);
            CHECK.due("kind " + kind + ", not there", f.count(4), 2);
            f.with(9, 0, 0, 0);
            state(f, "kind " + kind, 9, kind == Forge.NEW ? "111" : "100");
            f.drop(9);
            CHECK.due("kind " + kind + ", there no more", f.count(4), 2);
        }
    }

    /** "0: it is MADE and STARTED (if it is neither ABSTRACT nor a FACE)" */
    static void promise10New() {
        Forge f = keeper();
        f.with(2, 0, 0, 0).with(3, 0, Forge.ABSTRACT, 0).with(4, 0, Forge.FACE, 0).with(5, 0, 0, 2).with(6, 0, 3, 0);
        f.refers(1, Forge.NEW, 5, 7).refers(1, Forge.NEW, 3, 0).refers(1, Forge.NEW, 4, 0).refers(1, Forge.NEW, 6, 0);
        state(f, "a class", 5, "111");
        state(f, "its super", 2, "101");
        state(f, "an abstract class", 3, "100");
        state(f, "a face", 4, "100");
        state(f, "an abstract face", 6, "100");
        state(f, "class 0", 0, "101");
        f.refers(1, Forge.NEW, 0, 0);
        state(f, "class 0, made itself", 0, "111");
    }

    /** "(WORD and SHAPE do not matter for both)": NEW and TYPE bring no MEMBERS by them. */
    static void promise10WordsOfNewAndType() {
        Forge f = keeper();
        f.with(2, 0, 0, 0);
        int method = f.method(2, 2);
        int field = f.added(2, 2, 0, Forge.STATIC);
        f.refers(1, Forge.TYPE, 2, 2);
        state(f, "by type", 2, "100");
        f.refers(1, Forge.NEW, 2, 2);
        needed(f, "the method of this word", method, false);
        needed(f, "the field of this word", field, false);
        CHECK.due("they find nothing, and miss nothing", f.count(9), 0);
    }

    /** "2 to 5: what is FOUND", of FIELDS by 2 and of METHODS by 3 to 5. */
    static void promise10WhatIsFound() {
        for (int kind = Forge.FIELD; kind <= Forge.VIRTUAL; kind++) {
            Forge f = keeper();
            f.with(2, 0, 0, 0).with(3, 0, 0, 2);
            int field = f.field(2, 2);
            int method = f.method(2, 2);
            int shaped = f.added(3, 2, 1, Forge.METHOD);
            f.refers(1, kind, 3, 2);
            needed(f, "the field by kind " + kind, field, kind == Forge.FIELD);
            needed(f, "the method by kind " + kind, method, kind != Forge.FIELD);
            needed(f, "one of another shape by kind " + kind, shaped, false);
            state(f, "its class, which is not started", 2, "100");
        }
    }

    /** "if that is STATIC its CLASS is STARTED" */
    static void promise10FoundStatic() {
        for (int kind = Forge.FIELD; kind <= Forge.VIRTUAL; kind++) {
            Forge f = keeper();
            f.with(2, 0, Forge.ABSTRACT, 0).with(3, 0, 0, 2);
            int method = kind == Forge.FIELD ? 0 : Forge.METHOD;
            int still = f.added(2, 2, 0, method | Forge.STATIC | Forge.PRIVATE);
            int start = f.added(2, Forge.CLINIT, 0, Forge.METHOD | Forge.STATIC);
            int lower = f.added(3, Forge.CLINIT, 0, Forge.METHOD | Forge.STATIC);
            f.refers(1, kind, 3, 2);
            needed(f, "the static one by kind " + kind, still, true);
            state(f, "its class by kind " + kind, 2, "101");
            needed(f, "the start of its class", start, true);
            state(f, "the class of the reference", 3, "100");
            needed(f, "the start of that", lower, false);
            state(f, "the one that was started before", 1, "111");
        }
    }

    /** "5: what is SELECTED by this WORD and SHAPE for each CLASS that is MADE and UNDER c" */
    static void promise10Virtual() {
        Forge f = keeper();
        f.with(2, 0, Forge.FACE, 0).with(3, 0, 0, 0, 2).with(4, 0, 0, 3).with(5, 0, 0, 0).with(6, 0, 0, 3);
        int ofFace = f.method(2, 2);
        int over = f.method(3, 2);
        int deeper = f.method(4, 2);
        int beside = f.method(5, 2);
        int unmade = f.method(6, 2);
        f.refers(1, Forge.VIRTUAL, 2, 2).refers(1, Forge.NEW, 5, 0).refers(1, Forge.TYPE, 6, 0);
        needed(f, "what is found", ofFace, true);
        needed(f, "one of a class that is not made", over, false);
        f.refers(1, Forge.NEW, 4, 0);
        needed(f, "what is selected", deeper, true);
        needed(f, "what it overrides", over, false);
        needed(f, "one of a class that is not under it", beside, false);
        needed(f, "one of a class that is needed, not made", unmade, false);
        f.remove(deeper);
        needed(f, "what is selected now", over, true);
        f.refers(1, Forge.NEW, 6, 0);
        needed(f, "one of a class that is made now", unmade, true);
        f.refers(1, Forge.VIRTUAL, 0, 2);
        needed(f, "all are under class 0", beside, true);
    }

    /** Just VIRTUAL brings what is SELECTED. */
    static void promise10OtherKindsSelectNothing() {
        for (int kind = Forge.NEW; kind <= Forge.VIRTUAL; kind++) {
            Forge f = keeper();
            f.with(2, 0, 0, 0).with(3, 0, 0, 2);
            f.method(2, 2);
            int over = f.method(3, 2);
            f.refers(1, Forge.NEW, 3, 0).refers(1, kind, 2, 2);
            needed(f, "what overrides, by kind " + kind, over, kind == Forge.VIRTUAL);
        }
    }

    /** "A CLASS is UNDER itself"; nothing need be FOUND for something to be SELECTED. */
    static void promise10VirtualOfItself() {
        Forge f = keeper();
        f.with(2, 0, 0, 0).with(3, 0, 0, 2);
        int own = f.method(2, 2);
        int lower = f.method(3, 3);
        f.refers(1, Forge.NEW, 2, 0).refers(1, Forge.VIRTUAL, 2, 2).refers(1, Forge.VIRTUAL, 2, 3);
        needed(f, "its own", own, true);
        needed(f, "one that is not made", lower, false);
        f.refers(1, Forge.NEW, 3, 0);
        needed(f, "selected, though nothing is found", lower, true);
    }

    /** Nothing may be FOUND nor SELECTED, and then nothing comes. */
    static void promise10VirtualOfNothing() {
        Forge f = keeper();
        f.with(2, 0, 0, 0).refers(1, Forge.NEW, 2, 0);
        String before = f.counts();
        f.refers(1, Forge.VIRTUAL, 2, 5);
        CHECK.due("before", before, "3 2 1 1 3 2 3 2 1 0");
        CHECK.due("after", f.counts(), "3 2 2 1 3 2 3 2 2 1");
    }

    /** A CLASS that was STARTED before may be MADE later, and what is SELECTED for it comes then. */
    static void promise10StartedThenMade() {
        Forge f = new Forge();
        f.with(1, 1, 0, 0).with(3, 0, 0, 0).with(4, 1, 0, 3);
        int from = f.method(1, 1);
        int middle = f.method(1, 3);
        int up = f.method(3, 2);
        f.method(4, 2);
        f.refers(middle, Forge.VIRTUAL, 0, 2).refers(middle, Forge.NEW, 3, 0);
        f.ruled("keep class p.* { m s; m t; }");
        state(f, "just started", 3, "101");
        needed(f, "its method", up, false);
        f.refers(from, Forge.SPECIAL, 1, 3);
        state(f, "made too", 3, "111");
        needed(f, "its method, which is selected now", up, true);
    }

    /** By VIRTUAL a PRIVATE or STATIC one may be FOUND, and another one SELECTED. */
    static void promise10VirtualPassesOver() {
        Forge f = keeper();
        f.with(2, 0, 0, 0).with(3, 0, 0, 2).with(4, 0, 0, 3);
        int plain = f.method(2, 2);
        int hidden = f.added(3, 2, 0, Forge.METHOD | Forge.PRIVATE);
        int still = f.added(4, 2, 0, Forge.METHOD | Forge.STATIC);
        f.refers(1, Forge.NEW, 4, 0).refers(1, Forge.VIRTUAL, 3, 2);
        needed(f, "what is found", hidden, true);
        needed(f, "what is selected", plain, true);
        needed(f, "what is neither", still, false);
    }

    /** A CLASS that is MADE later counts for a REFERENCE that was there before, and the other way. */
    static void promise10VirtualInAnyOrder() {
        Forge f = keeper();
        f.with(2, 0, 0, 0).with(3, 0, 0, 2).with(4, 0, 0, 0);
        f.method(2, 2);
        int over = f.method(3, 2);
        int last = f.method(4, 4);
        f.refers(1, Forge.VIRTUAL, 2, 2).refers(over, Forge.SPECIAL, 4, 4).refers(1, Forge.NEW, 3, 0);
        needed(f, "what overrides", over, true);
        needed(f, "what that needs", last, true);
    }

    /** "What is SELECTED for a CLASS that is MADE by WORD 0 and SHAPE 0 (the LIBRARY calls it)." */
    static void promise10LibraryCalls() {
        Forge f = new Forge();
        f.with(1, 0, Forge.ABSTRACT, 0).with(2, 0, 0, 1).with(3, 0, Forge.ABSTRACT, 0);
        int called = f.method(1, 0);
        int otherShape = f.added(2, 0, 1, Forge.METHOD);
        int hidden = f.added(2, 0, 0, Forge.METHOD | Forge.PRIVATE);
        int field = f.field(2, 0);
        int otherWord = f.method(2, 1);
        int unmade = f.method(3, 0);
        f.ruled("keep class **");
        needed(f, "what the library calls", called, true);
        needed(f, "another shape", otherShape, false);
        needed(f, "a private one", hidden, false);
        needed(f, "a field", field, false);
        needed(f, "another word", otherWord, false);
        needed(f, "one of a class that is not made", unmade, false);
    }

    /** "as long as something comes": a chain through all METHODS, told from its end. */
    static void promise10LongestChain() {
        Forge f = new Forge();
        f.withAllMembers();
        for (int m = 1; m <= 38; m++) {
            int next = m + 1;
            f.refers(m, Forge.SPECIAL, f.part(next, 2), f.part(next, 3), f.part(next, 4));
        }
        CHECK.due("nothing is kept", f.count(7), 1);
        f.ruled("keep class o.B { m r; }");
        CHECK.due("r with both shapes, and all behind them", f.count(7), 40);
        needed(f, "the last one", 39, true);
        f.remove(20);
        needed(f, "the one before the gap", 19, true);
        needed(f, "the one behind it", 21, false);
        needed(f, "the last one", 39, false);
    }

    /** The same chain, each METHOD needing the one before it. */
    static void promise10LongestChainBackwards() {
        Forge f = new Forge();
        f.withAllMembers();
        for (int m = 39; m >= 2; m--) {
            int next = m - 1;
            f.refers(m, Forge.SPECIAL, f.part(next, 2), f.part(next, 3), f.part(next, 4));
        }
        f.with(3, 1, 0, 0).ruled("keep class p.D { m <init>; }");
        CHECK.due("what is kept is the last one", f.part(39, 3), Forge.INIT);
        CHECK.due("all are needed", f.count(7), 40);
    }

    /** A ring of REFERENCES comes to an end, and is not NEEDED by itself. */
    static void promise10Ring() {
        Forge f = keeper();
        f.with(2, 0, 0, 0).with(3, 0, 0, 0);
        int first = f.method(2, 2);
        int second = f.method(3, 2);
        f.refers(first, Forge.SPECIAL, 3, 2).refers(second, Forge.SPECIAL, 2, 2).refers(first, Forge.SPECIAL, 2, 2);
        needed(f, "one of a loose ring", first, false);
        f.refers(1, Forge.SPECIAL, 3, 2);
        needed(f, "the first", first, true);
        needed(f, "the second", second, true);
    }

    /** Each change shows in the next answer. */
    static void promise10ChangesShowAtOnce() {
        Forge f = new Forge();
        f.ruled("keep class ** { m *; }");
        CHECK.due("rule", f.counts(), "1 1 0 1 1 0 0 1 0 0");
        f.with(1, 0, 0, 0);
        CHECK.due("type", f.counts(), "2 1 0 1 2 1 2 1 0 0");
        int m = f.method(1, 1);
        CHECK.due("member", f.counts(), "2 2 0 1 2 1 2 2 0 0");
        f.refers(m, Forge.NEW, 0, 0);
        CHECK.due("refer", f.counts(), "2 2 1 1 2 2 2 2 1 0");
        f.remove(m);
        CHECK.due("remove", f.counts(), "2 1 1 1 2 1 2 1 0 0");
        f.drop(1);
        CHECK.due("drop", f.counts(), "1 1 1 1 1 0 0 1 0 0");
        f.with(1, 0, Forge.ABSTRACT, 0);
        CHECK.due("type again", f.counts(), "2 1 1 1 2 0 2 1 0 0");
        f.clear(false);
        CHECK.due("clear(false)", f.counts(), "2 1 1 0 1 0 0 1 0 0");
        f.ruled("keep class o.B");
        CHECK.due("rule again", f.counts(), "2 1 1 1 2 0 2 1 0 0");
        f.clear(true);
        CHECK.due("clear(true)", f.counts(), "1 1 0 0 1 0 0 1 0 0");
    }
}
