/** Promise 16: trace. */
public final class Promise16TraceTest {
    private static final Check CHECK = new Check();

    public static void main(String[] args) {
        CHECK.runAll(Promise16TraceTest.class);
    }

    /** CLASS 1 keeps its NAME, 2 and 3 get a and b, 4 is not NEEDED and keeps its own. */
    private static Forge three() {
        Forge f = new Forge();
        f.with(1, 1, 0, 0).with(2, 0, 0, 0).with(3, 0, 0, 0).with(4, 2, 0, 0);
        int from = f.method(1, 1);
        f.refers(from, Forge.TYPE, 2, 0).refers(from, Forge.TYPE, 3, 0);
        return f.ruled("keep class p.B { m s; }").ruled("keepnames class q.E");
    }

    /** "REFUSED if text is not 0 or 97 to 122" */
    static void promise16TextIs0Or97To122() {
        Forge f = new Forge();
        f.write("o.A");
        for (int text : new int[] {-1, 1, 96, 123, 'A', 'Z', '<', '0', 32, 127}) {
            CHECK.due("trace(" + text + ", ..)", f.trace(text, 0, true), Forge.REFUSED);
        }
        for (int text : Forge.outside(97, 122)) {
            if (text != 0) {
                CHECK.due("trace(" + text + ", ..)", f.trace(text, 0, true), Forge.REFUSED);
            }
        }
        CHECK.due("trace(0, ..)", f.trace(0, 0, true), 0);
        for (int text = 97; text <= 122; text++) {
            CHECK.due("trace(" + text + ", ..)", f.trace(text, 0, true), text == 'r' ? 0 : Forge.NONE);
        }
    }

    /** "or shape not 0 or 1" */
    static void promise16ShapeIs0Or1() {
        Forge f = new Forge();
        f.write("o.A");
        for (int shape : Forge.outside(0, 1)) {
            CHECK.due("a class, shape " + shape, f.trace(0, shape, true), Forge.REFUSED);
            CHECK.due("a member, shape " + shape, f.trace('r', shape, true), Forge.REFUSED);
        }
        CHECK.due("shape 0", f.trace('r', 0, true), 0);
        CHECK.due("shape 1", f.trace('r', 1, true), Forge.NONE);
    }

    /** A wrong number is REFUSED though the DRAFT names nothing. */
    static void promise16RefusedThoughThereIsNone() {
        Forge f = new Forge();
        CHECK.due("a wrong text", f.trace(96, 0, false), Forge.REFUSED);
        CHECK.due("a wrong shape", f.trace(97, 2, false), Forge.REFUSED);
        CHECK.due("both as said", f.trace(97, 1, false), Forge.NONE);
    }

    /** "for text 0, the CLASS": by its new NAME. */
    static void promise16ClassByItsNewName() {
        Forge f = three();
        CHECK.due("a", f.tracedClass("a"), 2);
        CHECK.due("b", f.tracedClass("b"), 3);
        CHECK.due("c", f.tracedClass("c"), Forge.NONE);
        CHECK.due("an old name that is not kept", f.tracedClass("o.C"), Forge.NONE);
    }

    /** "(or an old one that is kept)" */
    static void promise16ClassByItsKeptName() {
        Forge f = three();
        CHECK.due("p.B", f.tracedClass("p.B"), 1);
        CHECK.due("class 0", f.tracedClass("o.A"), 0);
        CHECK.due("the same letter in another package", f.tracedClass("o.B"), Forge.NONE);
    }

    /** "of a CLASS that is NEEDED" */
    static void promise16ClassThatIsNotNeeded() {
        Forge f = three();
        CHECK.due("its name is kept", f.needs(4, 3), 1);
        CHECK.due("but it is not needed", f.tracedClass("q.E"), Forge.NONE);
        CHECK.due("the class as said", f.tracedClass("p.B"), 1);
    }

    /** "0 names the CLASS itself", whatever SHAPE and kind. */
    static void promise16Text0() {
        Forge f = three();
        f.write("a");
        for (int shape = 0; shape <= 1; shape++) {
            CHECK.due("a method", f.trace(0, shape, true), 2);
            CHECK.due("a field", f.trace(0, shape, false), 2);
        }
    }

    /** All of the DRAFT is the NAME, no more and no less. */
    static void promise16WholeDraft() {
        Forge f = three();
        for (String draft : new String[] {"aa", "ab", "a ", " a", "A", "o", "o.", ".A", "o.AA", "o.A ", "p.BB", "p,B", "", " "}) {
            CHECK.due("\"" + draft + "\"", f.tracedClass(draft), Forge.NONE);
        }
        CHECK.due("60 characters", f.tracedClass("a".repeat(60)), Forge.NONE);
        CHECK.due("one character", f.tracedClass("a"), 2);
    }

    /** An empty DRAFT names nothing. */
    static void promise16EmptyDraft() {
        Forge f = three();
        CHECK.due("the class", f.trace(0, 0, false), Forge.NONE);
        CHECK.due("a member", f.trace('s', 0, true), Forge.NONE);
    }

    /** "the DRAFT (which stays)", also when the call is REFUSED or there is none. */
    static void promise16TheDraftStays() {
        Forge f = three();
        f.write("a");
        CHECK.due("first", f.trace(0, 0, false), 2);
        CHECK.due("refused", f.trace(1, 0, false), Forge.REFUSED);
        CHECK.due("none", f.trace('z', 0, false), Forge.NONE);
        CHECK.due("again", f.trace(0, 0, false), 2);
        CHECK.due("one more letter", f.letter('b'), 2);
        CHECK.due("that names none", f.trace(0, 0, false), Forge.NONE);
        CHECK.due("nor is it a rule", f.rule(), -11);
        f.write("keep class o.C");
        CHECK.due("a rule names none", f.trace(0, 0, false), Forge.NONE);
        CHECK.due("and is still a rule", f.rule(), 3);
    }

    /** "a new text as letter .. the MEMBER of that CLASS" */
    static void promise16MemberByItsNewText() {
        Forge f = three();
        int t = f.method(2, 2);
        int shaped = f.added(2, 2, 1, Forge.METHOD);
        int field = f.field(2, 3);
        int other = f.method(3, 4);
        f.refers(1, Forge.SPECIAL, 2, 2).refers(1, Forge.SPECIAL, 2, 2, 1).refers(1, Forge.FIELD, 2, 3);
        f.refers(1, Forge.SPECIAL, 3, 4);
        f.write("a");
        CHECK.due("method a", f.trace('a', 0, true), t);
        CHECK.due("method a with shape 1", f.trace('a', 1, true), shaped);
        CHECK.due("field a", f.trace('a', 0, false), field);
        CHECK.due("field a with shape 1", f.trace('a', 1, false), Forge.NONE);
        CHECK.due("method b is of another class", f.trace('b', 0, true), Forge.NONE);
        CHECK.due("method b of that", f.traced("b", 'b', 0, true), other);
        CHECK.due("method a is not of that", f.trace('a', 0, true), Forge.NONE);
        CHECK.due("an old text that is not kept", f.traced("a", 't', 0, true), Forge.NONE);
    }

    /** A kept text is its new one too. */
    static void promise16MemberByItsKeptText() {
        Forge f = three();
        int called = f.method(1, 0);
        CHECK.due("s of p.B", f.traced("p.B", 's', 0, true), 1);
        CHECK.due("r, which the library calls", f.trace('r', 0, true), called);
        CHECK.due("there is no field s", f.trace('s', 0, false), Forge.NONE);
        CHECK.due("nor shape 1", f.trace('s', 1, true), Forge.NONE);
        CHECK.due("member 0", f.traced("o.A", 'r', 0, true), 0);
        CHECK.due("member 0 is no field", f.trace('r', 0, false), Forge.NONE);
    }

    /** What is not NEEDED has gone, also with a kept text; so has what is GONE. */
    static void promise16MemberThatIsNotNeeded() {
        Forge f = three();
        int alike = f.method(2, 1);
        CHECK.due("its text is kept", f.part(alike, 1), 1);
        CHECK.due("but it is not needed", f.traced("a", 's', 0, true), Forge.NONE);
        f.refers(1, Forge.SPECIAL, 2, 1);
        CHECK.due("it is needed now", f.trace('s', 0, true), alike);
        f.remove(alike);
        CHECK.due("it is gone", f.trace('s', 0, true), Forge.NONE);
    }

    /** Just a MEMBER of that CLASS itself, none that it has from above. */
    static void promise16NotFromAbove() {
        Forge f = three();
        f.with(2, 0, 0, 1);
        CHECK.due("s of its super", f.traced("a", 's', 0, true), Forge.NONE);
        CHECK.due("r of class 0", f.trace('r', 0, true), Forge.NONE);
        CHECK.due("s of the super itself", f.traced("p.B", 's', 0, true), 1);
    }

    /** "the first of that text alone is looked at": <init> begins with no letter. */
    static void promise16LongTexts() {
        Forge f = three();
        int init = f.method(2, Forge.INIT);
        f.refers(1, Forge.SPECIAL, 2, Forge.INIT);
        f.write("a");
        CHECK.due("<init> is needed", f.part(init, 0), 1);
        for (int text : new int[] {'i', 'n', 't', 'c', 'a'}) {
            CHECK.due("trace(" + text + ", ..)", f.trace(text, 0, true), Forge.NONE);
        }
        CHECK.due("<", f.trace('<', 0, true), Forge.REFUSED);
        CHECK.due("0 names the class", f.trace(0, 0, true), 2);
    }

    /** The greatest of all: CLASS 9, and MEMBER 39 of a full program. */
    static void promise16GreatestNumbers() {
        Forge f = new Forge();
        f.withPlain(8).with(9, 2, 0, 0);
        for (int m = 1; m <= 39; m++) {
            f.added(m == 39 ? 9 : 1 + m / 6, m % 6, 1, Forge.METHOD);
        }
        f.ruled("keep class ** { m *; }");
        CHECK.due("class 9", f.tracedClass("q.J"), 9);
        CHECK.due("member 39", f.trace('u', 1, true), 39);
        CHECK.due("no other method", f.trace('v', 1, true), Forge.NONE);
        CHECK.due("no field", f.trace('u', 1, false), Forge.NONE);
    }

    /** Each change shows in the next answer. */
    static void promise16ChangesShowAtOnce() {
        Forge f = three();
        f.write("b");
        CHECK.due("b", f.trace(0, 0, false), 3);
        f.drop(2);
        CHECK.due("b is no name now", f.trace(0, 0, false), Forge.NONE);
        f.with(2, 0, 0, 0);
        CHECK.due("b is one again", f.trace(0, 0, false), 3);
    }
}
