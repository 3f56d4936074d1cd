/** Promise 6: refer. */
public final class Promise06ReferTest {
    private static final Check CHECK = new Check();

    public static void main(String[] args) {
        CHECK.runAll(Promise06ReferTest.class);
    }

    private static void refused(Forge f, int m, int kind, int c, int word, int shape) {
        CHECK.due("refer(" + m + ", " + kind + ", " + c + ", " + word + ", " + shape + ")",
            f.refer(m, kind, c, word, shape), Forge.REFUSED);
    }

    /** "A REFERENCE of MEMBER m: how many there are." */
    static void promise6HowManyThereAre() {
        Forge f = new Forge();
        f.withPlain(2);
        int first = f.method(1, 1);
        int second = f.method(2, 1);
        CHECK.due("one", f.refer(first, 5, 1, 1, 0), 1);
        CHECK.due("the same again", f.refer(first, 5, 1, 1, 0), 2);
        CHECK.due("one of another method", f.refer(second, 0, 2, 0, 0), 3);
        CHECK.due("count(2)", f.count(2), 3);
    }

    /** "REFUSED if m is not a METHOD" */
    static void promise6NotAMethod() {
        Forge f = new Forge();
        f.with(1, 0, 0, 0);
        for (int flags = 0; flags <= 7; flags++) {
            int m = f.added(1, flags / 2, 0, flags);
            if (flags % 2 == 0) {
                refused(f, m, 0, 0, 0, 0);
            } else {
                CHECK.due("a method with flags " + flags, f.refer(m, 0, 0, 0, 0), (flags + 1) / 2);
            }
        }
    }

    /** "REFUSED if m is not a METHOD": there is none such. */
    static void promise6NoSuchMember() {
        Forge f = new Forge();
        f.with(1, 0, 0, 0);
        int last = f.method(1, 1);
        refused(f, last + 1, 0, 0, 0, 0);
        for (int m : Forge.outside(0, 39)) {
            refused(f, m, 0, 0, 0, 0);
        }
        f.clear(true);
        refused(f, last, 0, 0, 0, 0);
    }

    /** "is 0" */
    static void promise6Member0() {
        Forge f = new Forge();
        for (int kind = 0; kind <= 5; kind++) {
            refused(f, 0, kind, 0, 0, 0);
        }
    }

    /** "or GONE" */
    static void promise6Gone() {
        Forge f = new Forge();
        f.with(1, 0, 0, 0);
        int removed = f.method(1, 1);
        int dropped = f.method(1, 2);
        f.remove(removed);
        refused(f, removed, 0, 0, 0, 0);
        CHECK.due("the other is not gone", f.refer(dropped, 0, 0, 0, 0), 1);
        f.drop(1);
        refused(f, dropped, 0, 0, 0, 0);
        f.with(1, 0, 0, 0);
        refused(f, dropped, 0, 0, 0, 0);
    }

    /** "kind is not 0 to 5" */
    static void promise6KindIs0To5() {
        Forge f = new Forge();
        f.with(1, 0, 0, 0);
        int m = f.method(1, 1);
        for (int kind : Forge.outside(0, 5)) {
            refused(f, m, kind, 0, 0, 0);
        }
        for (int kind = 0; kind <= 5; kind++) {
            CHECK.due("kind " + kind, f.refer(m, kind, 0, 0, 0), kind + 1);
        }
    }

    /** "c not 0 to 9"; one that is not THERE will do. */
    static void promise6ClassIs0To9() {
        Forge f = new Forge();
        f.with(1, 0, 0, 0);
        int m = f.method(1, 1);
        for (int c : Forge.outside(0, 9)) {
            refused(f, m, 0, c, 0, 0);
            refused(f, m, 5, c, 0, 0);
        }
        for (int c = 0; c <= 9; c++) {
            CHECK.due("class " + c, f.refer(m, 1, c, 0, 0), c + 1);
        }
    }

    /** "word not 0 to 7", whatever the kind: for FIELD too, and for NEW and TYPE. */
    static void promise6WordIs0To7() {
        Forge f = new Forge();
        f.with(1, 0, 0, 0);
        int m = f.method(1, 1);
        for (int kind = 0; kind <= 5; kind++) {
            for (int word : Forge.outside(0, 7)) {
                refused(f, m, kind, 0, word, 0);
            }
            for (int word = 0; word <= 7; word++) {
                CHECK.due("kind " + kind + " word " + word, f.refer(m, kind, 0, word, 0), kind * 8 + word + 1);
            }
        }
    }

    /** "or shape not 0 or 1", whatever the kind. */
    static void promise6ShapeIs0Or1() {
        Forge f = new Forge();
        f.with(1, 0, 0, 0);
        int m = f.method(1, 1);
        for (int kind = 0; kind <= 5; kind++) {
            for (int shape : Forge.outside(0, 1)) {
                refused(f, m, kind, 0, 0, shape);
            }
            CHECK.due("shape 0", f.refer(m, kind, 0, 0, 0), 2 * kind + 1);
            CHECK.due("shape 1", f.refer(m, kind, 0, 0, 1), 2 * kind + 2);
        }
    }

    /** "FULL with 60" */
    static void promise6FullWith60() {
        Forge f = new Forge();
        f.with(1, 0, 0, 0);
        int m = f.method(1, 1);
        for (int n = 1; n <= 60; n++) {
            CHECK.due("reference " + n, f.refer(m, n % 6, n % 10, n % 8, n % 2), n);
        }
        CHECK.due("one more", f.refer(m, 1, 0, 0, 0), Forge.FULL);
        CHECK.due("and again", f.refer(m, 1, 0, 0, 0), Forge.FULL);
        CHECK.due("still 60", f.count(2), 60);
    }

    /** The REFERENCES of METHODS that are GONE are there still. */
    static void promise6ThoseOfGoneMethodsCount() {
        Forge f = new Forge();
        f.with(1, 0, 0, 0);
        int gone = f.method(1, 1);
        int m = f.method(1, 2);
        for (int n = 1; n <= 59; n++) {
            f.refers(gone, Forge.TYPE, 0, 0);
        }
        f.remove(gone);
        CHECK.due("the 60th", f.refer(m, 1, 0, 0, 0), 60);
        CHECK.due("one more", f.refer(m, 1, 0, 0, 0), Forge.FULL);
    }

    static void promise6RefusedBeforeFull() {
        Forge f = new Forge();
        f.with(1, 0, 0, 0);
        int m = f.method(1, 1);
        int field = f.field(1, 1);
        for (int n = 1; n <= 60; n++) {
            f.refers(m, Forge.TYPE, 0, 0);
        }
        refused(f, 0, 0, 0, 0, 0);
        refused(f, field, 0, 0, 0, 0);
        refused(f, 9, 0, 0, 0, 0);
        refused(f, m, 6, 0, 0, 0);
        refused(f, m, 0, 10, 0, 0);
        refused(f, m, 0, 0, 8, 0);
        refused(f, m, 0, 0, 0, 2);
        CHECK.due("all is as said", f.refer(m, 0, 0, 0, 0), Forge.FULL);
    }

    static void promise6RefusedChangesNothing() {
        Forge f = new Forge();
        f.withPlain(2);
        int m = f.method(1, 1);
        f.ruled("keep class o.B { m s; }");
        String before = f.counts();
        refused(f, 0, Forge.NEW, 2, 0, 0);
        refused(f, m, 6, 2, 0, 0);
        refused(f, m, Forge.NEW, 10, 0, 0);
        refused(f, m, Forge.NEW, 2, 8, 0);
        refused(f, m, Forge.NEW, 2, 0, 2);
        CHECK.due("all is as before", f.counts(), before);
    }

    static void promise6FullChangesNothing() {
        Forge f = new Forge();
        f.withPlain(2);
        int m = f.method(1, 1);
        f.ruled("keep class o.B { m s; }");
        for (int n = 1; n <= 60; n++) {
            f.refers(m, Forge.TYPE, 0, 0);
        }
        CHECK.due("a new one", f.refer(m, Forge.NEW, 2, 0, 0), Forge.FULL);
        CHECK.due("class 2 is not needed by it", f.needs(2, 0), 0);
        CHECK.due("how many of needed methods", f.count(8), 60);
    }

    static void promise6RoomAfterClearAll() {
        Forge f = new Forge();
        f.with(1, 0, 0, 0);
        int m = f.method(1, 1);
        for (int n = 1; n <= 60; n++) {
            f.refers(m, Forge.TYPE, 0, 0);
        }
        f.clear(false);
        CHECK.due("clear(false) makes no room", f.refer(m, 1, 0, 0, 0), Forge.FULL);
        f.clear(true);
        f.with(1, 0, 0, 0);
        CHECK.due("clear(true) does", f.refer(f.method(1, 1), 1, 0, 0, 0), 1);
    }
}
