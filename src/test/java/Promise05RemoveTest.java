/** Promise 5: remove. */
public final class Promise05RemoveTest {
    private static final Check CHECK = new Check();

    public static void main(String[] args) {
        CHECK.runAll(Promise05RemoveTest.class);
    }

    /** "MEMBER m .. is GONE: true" */
    static void promise5ItIsGone() {
        Forge f = new Forge();
        f.with(1, 0, 0, 0);
        int method = f.method(1, 1);
        int field = f.field(1, 1);
        int other = f.added(1, 1, 1, Forge.METHOD);
        f.refers(method, Forge.NEW, 1, 0);
        CHECK.due("remove of the method", f.remove(method), true);
        for (int what = 0; what <= 5; what++) {
            CHECK.due("part(gone, " + what + ")", f.part(method, what), Forge.NONE);
        }
        CHECK.due("it is not found", f.found(Forge.VIRTUAL, 1, 1, 0, false), Forge.NONE);
        CHECK.due("nor selected", f.selected(1, 1, 0, false), Forge.NONE);
        CHECK.due("refer of it", f.refer(method, 0, 0, 0, 0), Forge.REFUSED);
        CHECK.due("the field of the same word is", f.found(Forge.FIELD, 1, 1, 0, false), field);
        CHECK.due("so is the other shape", f.found(Forge.VIRTUAL, 1, 1, 1, false), other);
        CHECK.due("how many are left", f.count(1), 3);
        CHECK.due("remove of the field", f.remove(field), true);
        CHECK.due("it is not found", f.found(Forge.FIELD, 1, 1, 0, false), Forge.NONE);
    }

    /** The first and the last number that a MEMBER can have. */
    static void promise5FirstAndLast() {
        Forge f = new Forge();
        f.withAllMembers();
        CHECK.due("remove(40)", f.remove(40), false);
        CHECK.due("remove(39)", f.remove(39), true);
        CHECK.due("remove(1)", f.remove(1), true);
        CHECK.due("how many are left", f.count(1), 38);
    }

    /** "(not 0)", which is "never GONE" */
    static void promise5NotMember0() {
        Forge f = new Forge();
        CHECK.due("remove(0)", f.remove(0), false);
        CHECK.due("it is there", f.part(0, 0), 1);
        CHECK.due("it is counted", f.count(1), 1);
    }

    /** "false if there is none such" */
    static void promise5NoneSuch() {
        Forge f = new Forge();
        f.with(1, 0, 0, 0);
        int last = f.method(1, 1);
        CHECK.due("the next number", f.remove(last + 1), false);
        for (int m : Forge.outside(0, 39)) {
            CHECK.due("remove(" + m + ")", f.remove(m), false);
        }
        CHECK.due("none went", f.count(1), 2);
        f.clear(true);
        CHECK.due("one that clear(true) took", f.remove(last), false);
    }

    /** "or it is so" (GONE) */
    static void promise5GoneAlready() {
        Forge f = new Forge();
        f.with(1, 0, 0, 0);
        int removed = f.method(1, 1);
        CHECK.due("once", f.remove(removed), true);
        CHECK.due("again", f.remove(removed), false);
        int next = f.method(1, 1);
        CHECK.due("again, when there is one like it", f.remove(removed), false);
        CHECK.due("that one stays", f.found(Forge.VIRTUAL, 1, 1, 0, false), next);
        f.drop(1);
        CHECK.due("one that was dropped", f.remove(next), false);
    }

    static void promise5FalseChangesNothing() {
        Forge f = new Forge();
        f.withPlain(2);
        int m = f.method(1, 1);
        f.remove(f.method(1, 2));
        f.refers(m, Forge.NEW, 2, 0).ruled("keep class o.B { m s; }").write("ab");
        String before = f.counts();
        for (int bad : new int[] {0, 2, 3, 40, -1, 64, Integer.MAX_VALUE}) {
            CHECK.due("remove(" + bad + ")", f.remove(bad), false);
            CHECK.due("all is as before", f.counts(), before);
        }
        CHECK.due("the draft too", f.letter('c'), 3);
    }

    /** Nothing says that the REFERENCES of a METHOD go with it; they bring nothing any more. */
    static void promise5ItsReferencesStay() {
        Forge f = new Forge();
        f.withPlain(3);
        int m = f.method(1, 1);
        f.refers(m, Forge.NEW, 2, 0).refers(m, Forge.NEW, 9, 0).ruled("keep class o.B { m s; }");
        CHECK.due("before", f.counts(), "4 2 2 1 3 2 3 2 2 1");
        f.remove(m);
        CHECK.due("after", f.counts(), "4 1 2 1 2 1 2 1 0 0");
        int next = f.method(1, 1);
        CHECK.due("one like it is another", f.part(next, 0), 1);
        CHECK.due("and has none of them", f.count(8), 0);
    }
}
