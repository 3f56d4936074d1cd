/** Promise 1: what a new object holds, and the fixed things under "Terms" that are in it. */
public final class Promise01NewObjectTest {
    private static final Check CHECK = new Check();

    public static void main(String[] args) {
        CHECK.runAll(Promise01NewObjectTest.class);
    }

    /** "Only CLASS 0 ..." */
    static void promise1OnlyClass0() {
        Forge f = new Forge();
        CHECK.due("classes there", f.count(0), 1);
        int[] due = {1, 0, 0, 1, 0, Forge.NONE};
        for (int what = 0; what <= 5; what++) {
            CHECK.due("needs(0, " + what + ")", f.needs(0, what), due[what]);
            for (int c = 1; c <= 9; c++) {
                CHECK.due("needs(" + c + ", " + what + ")", f.needs(c, what), Forge.NONE);
            }
        }
    }

    /** "Only ... MEMBER 0" */
    static void promise1OnlyMember0() {
        Forge f = new Forge();
        CHECK.due("members not gone", f.count(1), 1);
        for (int m = 1; m <= 40; m++) {
            CHECK.due("part(" + m + ", 0)", f.part(m, 0), Forge.NONE);
        }
        f.with(1, 0, 0, 0);
        CHECK.due("the next member is 1", f.member(1, 0, 0, 0), 1);
    }

    /** "no REFERENCES" */
    static void promise1NoReferences() {
        Forge f = new Forge();
        CHECK.due("references", f.count(2), 0);
        CHECK.due("references of needed methods", f.count(8), 0);
        CHECK.due("references that find nothing", f.count(9), 0);
        f.with(1, 0, 0, 0);
        CHECK.due("the next one is the first", f.refer(f.method(1, 1), 0, 0, 0, 0), 1);
    }

    /** "no RULES" */
    static void promise1NoRules() {
        Forge f = new Forge();
        CHECK.due("rules", f.count(3), 0);
        CHECK.due("clear tells none", f.clear(false), 0);
        CHECK.due("the next one is the first", f.rule("keep class a"), 1);
    }

    /** "an empty DRAFT" */
    static void promise1EmptyDraft() {
        CHECK.due("rule() of the empty draft", new Forge().rule(), -11);
        CHECK.due("the first letter", new Forge().letter('k'), 1);
        CHECK.due("the empty draft names no class", new Forge().trace(0, 0, false), Forge.NONE);
    }

    /** "CLASS 0 is always THERE: it is of the LIBRARY, a class, in PACKAGE 0." */
    static void promise1Class0IsAClassInPackage0() {
        Forge f = new Forge();
        CHECK.due("its name", f.className(0), "o.A");
        f.with(1, 0, 0, 0, 0);
        CHECK.due("as a face it does not count", f.needs(1, 4), 1);
        int m = f.method(1, 1);
        f.refers(m, Forge.NEW, 0, 0).ruled("keep class o.B { m s; }");
        CHECK.due("it can be made", f.needs(0, 1), 1);
    }

    /** "CLASS 0 has the METHOD 0 r with SHAPE 0, not STATIC, not PRIVATE (MEMBER 0 ..)" */
    static void promise1Member0IsThePlainMethodR() {
        Forge f = new Forge();
        int[] due = {1, 1, 0, 0, 0, Forge.METHOD};
        for (int what = 0; what <= 5; what++) {
            CHECK.due("part(0, " + what + ")", f.part(0, what), due[what]);
        }
        CHECK.due("its text", f.memberText(0), "r");
        CHECK.due("it is found", f.found(Forge.VIRTUAL, 0, 0, 0, true), 0);
        CHECK.due("it is selected", f.selected(0, 0, 0, true), 0);
    }

    /** "(MEMBER 0, never GONE), and may have no others" */
    static void promise1Member0StaysAndIsAlone() {
        Forge f = new Forge();
        CHECK.due("remove(0)", f.remove(0), false);
        CHECK.due("drop(0)", f.drop(0), false);
        CHECK.due("another method", f.member(0, 1, 0, 1), Forge.REFUSED);
        CHECK.due("a field", f.member(0, 0, 0, 0), Forge.REFUSED);
        CHECK.due("it is there", f.part(0, 2), 0);
        CHECK.due("alone", f.count(1), 1);
    }

    static void promise1TheMappingIsEmpty() {
        Forge f = new Forge();
        CHECK.due("mapping(-1)", f.mapping(-1), 0);
        CHECK.due("mapping(0)", f.mapping(0), Forge.NONE);
    }

    /** A new object is new whatever was done with others. */
    static void promise1ObjectsShareNothing() {
        Forge first = new Forge();
        Forge second = new Forge();
        first.with(1, 1, 0, 0);
        first.refers(first.method(1, 1), Forge.NEW, 1, 0).ruled("keep class ** { m *; }").write("abc");
        CHECK.due("counts of the first", first.counts(), "2 2 1 1 2 1 2 2 1 0");
        CHECK.due("counts of the second", second.counts(), "1 1 0 0 1 0 0 1 0 0");
        CHECK.due("the draft of the second", second.letter('k'), 1);
        CHECK.due("counts of a third", new Forge().counts(), "1 1 0 0 1 0 0 1 0 0");
    }
}
