/** Promise 17: count. */
public final class Promise17CountTest {
    private static final Check CHECK = new Check();

    public static void main(String[] args) {
        CHECK.runAll(Promise17CountTest.class);
    }

    private static void count(Forge f, String when, int what, int due) {
        CHECK.due(when + ": count(" + what + ")", f.count(what), due);
    }

    /** "REFUSED for others" */
    static void promise17RefusedForOthers() {
        Forge f = new Forge();
        for (int what : Forge.outside(0, 9)) {
            count(f, "wrong", what, Forge.REFUSED);
        }
        int[] due = {1, 1, 0, 0, 1, 0, 0, 1, 0, 0};
        for (int what = 0; what <= 9; what++) {
            count(f, "new", what, due[what]);
        }
    }

    /** "0: CLASSES THERE": 1 to 10 */
    static void promise17ClassesThere() {
        Forge f = new Forge();
        count(f, "class 0", 0, 1);
        for (int c = 1; c <= 9; c++) {
            f.with(c, 0, c % 4, 0);
            count(f, "with class " + c, 0, c + 1);
        }
        f.with(9, 1, 0, 0);
        count(f, "one again", 0, 10);
        f.drop(9);
        count(f, "one less", 0, 9);
    }

    /** "1: MEMBERS not GONE": 1 to 40 */
    static void promise17MembersNotGone() {
        Forge f = new Forge();
        count(f, "member 0", 1, 1);
        f.withAllMembers();
        count(f, "all", 1, 40);
        f.remove(39);
        count(f, "one is gone", 1, 39);
        f.drop(1);
        count(f, "16 more are", 1, 23);
    }

    /** "2: REFERENCES": 0 to 60, also of METHODS that are not NEEDED or GONE */
    static void promise17References() {
        Forge f = new Forge();
        f.with(1, 0, 0, 0);
        int m = f.method(1, 1);
        count(f, "none", 2, 0);
        for (int n = 1; n <= 60; n++) {
            f.refers(m, Forge.NEW, 9, 0);
            count(f, "some", 2, n);
        }
        f.remove(m);
        count(f, "their method is gone", 2, 60);
        count(f, "their method is gone", 8, 0);
        count(f, "their method is gone", 9, 0);
    }

    /** "3: RULES": 0 to 8, also those that are ABOUT nothing */
    static void promise17Rules() {
        Forge f = new Forge();
        count(f, "none", 3, 0);
        for (int n = 1; n <= 8; n++) {
            f.ruled("keepnames class x");
            count(f, "some", 3, n);
        }
        f.clear(false);
        count(f, "none again", 3, 0);
    }

    /** "4: CLASSES NEEDED, 5: MADE, 6: STARTED": none but CLASS 0, some, all */
    static void promise17ClassesNeededMadeStarted() {
        Forge f = new Forge();
        f.with(1, 0, 0, 0).with(2, 0, Forge.FACE, 0).with(3, 1, 0, 1, 2).with(4, 0, Forge.ABSTRACT, 0).with(5, 0, 0, 0);
        count(f, "no rules", 4, 1);
        count(f, "no rules", 5, 0);
        count(f, "no rules", 6, 0);
        f.ruled("keep class p.D");
        count(f, "one kept", 4, 4);
        count(f, "one kept", 5, 1);
        count(f, "one kept", 6, 3);
        f.ruled("keep class **");
        count(f, "all kept", 4, 6);
        count(f, "all kept", 5, 3);
        count(f, "all kept", 6, 6);
        f.refers(f.method(1, 1), Forge.NEW, 0, 0).ruled("keep class o.B { m s; }");
        count(f, "class 0 is made", 5, 4);
    }

    /** "7: MEMBERS NEEDED": just MEMBER 0, some, all */
    static void promise17MembersNeeded() {
        Forge f = new Forge();
        f.withAllMembers();
        count(f, "no rules", 7, 1);
        f.ruled("keep class o.C { m s; m <init>; }");
        count(f, "two of both shapes, and r", 7, 6);
        f.ruled("keep class ** { m *; }");
        count(f, "all", 7, 40);
    }

    /** "8: REFERENCES of NEEDED METHODS" */
    static void promise17ReferencesOfNeededMethods() {
        Forge f = new Forge();
        f.with(1, 0, 0, 0);
        int first = f.method(1, 1);
        int second = f.method(1, 2);
        for (int kind = Forge.NEW; kind <= Forge.VIRTUAL; kind++) {
            f.refers(first, kind, 0, 0);
        }
        f.refers(second, Forge.TYPE, 0, 0);
        count(f, "neither is needed", 8, 0);
        f.ruled("keep class o.B { m s; }");
        count(f, "the first is needed", 8, 6);
        f.ruled("keep class o.B { m t; }");
        count(f, "both are needed", 8, 7);
        f.refers(second, Forge.TYPE, 0, 0);
        count(f, "the same again", 8, 8);
        f.remove(first);
        count(f, "the first is gone", 8, 2);
    }

    /** "9: those of them that FIND nothing (2 to 5)" */
    static void promise17FindNothing() {
        for (int kind = Forge.NEW; kind <= Forge.VIRTUAL; kind++) {
            Forge f = new Forge();
            f.withPlain(2);
            int from = f.method(1, 1);
            f.refers(from, kind, 2, 4);
            count(f, "kind " + kind + ", its method is not needed", 9, 0);
            f.ruled("keep class o.B { m s; }");
            count(f, "kind " + kind + ", nothing there", 9, kind < Forge.FIELD ? 0 : 1);
            f.added(2, 4, 1, kind == Forge.FIELD ? 0 : Forge.METHOD);
            f.added(2, 4, 0, kind == Forge.FIELD ? Forge.METHOD : 0);
            count(f, "kind " + kind + ", another shape and another kind", 9, kind < Forge.FIELD ? 0 : 1);
            f.added(2, 4, 0, kind == Forge.FIELD ? 0 : Forge.METHOD | Forge.STATIC | Forge.PRIVATE);
            count(f, "kind " + kind + ", it is there", 9, 0);
        }
    }

    /** "or whose c is not THERE", for all KINDS */
    static void promise17NotThere() {
        for (int kind = Forge.NEW; kind <= Forge.VIRTUAL; kind++) {
            Forge f = new Forge();
            f.with(1, 0, 0, 0);
            int from = f.method(1, 1);
            f.ruled("keep class o.B { m s; }").refers(from, kind, 9, 0);
            count(f, "kind " + kind + ", not there", 9, 1);
            count(f, "kind " + kind, 8, 1);
            f.with(9, 0, 0, 0);
            count(f, "kind " + kind + ", there", 9, kind == Forge.FIELD ? 1 : 0);
            f.drop(9);
            count(f, "kind " + kind + ", there no more", 9, 1);
        }
    }

    /** What is FOUND counts whether it was found in the LINE, in a FACE or in CLASS 0. */
    static void promise17FoundAbove() {
        Forge f = new Forge();
        f.with(1, 0, 0, 0).with(2, 0, Forge.FACE, 0).with(3, 0, 0, 1, 2);
        int from = f.method(1, 1);
        f.method(2, 2);
        f.ruled("keep class o.B { m s; }");
        f.refers(from, Forge.SPECIAL, 3, 1).refers(from, Forge.SPECIAL, 3, 2).refers(from, Forge.SPECIAL, 3, 0);
        count(f, "all are found", 9, 0);
        f.refers(from, Forge.SPECIAL, 3, 3);
        count(f, "one is not", 9, 1);
        count(f, "of four", 8, 4);
    }

    /** The most that can be missed. */
    static void promise17All60Miss() {
        Forge f = new Forge();
        f.with(1, 0, 0, 0);
        int from = f.method(1, 1);
        f.ruled("keep class o.B { m s; }");
        for (int n = 0; n < 60; n++) {
            f.refers(from, n % 6, 9, n % 8, n % 2);
        }
        count(f, "60", 8, 60);
        count(f, "60", 9, 60);
    }

    /** A question changes nothing. */
    static void promise17QuestionsChangeNothing() {
        Forge f = new Forge();
        f.withPlain(2);
        int m = f.method(1, 1);
        f.refers(m, Forge.NEW, 2, 0).ruled("keep class o.B { m s; }").write("ab");
        String before = f.counts();
        f.needs(1, 0);
        f.part(m, 0);
        f.found(5, 1, 1, 0, true);
        f.selected(1, 1, 0, true);
        f.name(true, m, 0);
        f.mapping(0);
        f.trace(0, 0, false);
        CHECK.due("counts", f.counts(), before);
        CHECK.due("the draft", f.letter('c'), 3);
    }
}
