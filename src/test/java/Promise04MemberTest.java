/** Promise 4: member. */
public final class Promise04MemberTest {
    private static final Check CHECK = new Check();

    public static void main(String[] args) {
        CHECK.runAll(Promise04MemberTest.class);
    }

    private static void refused(Forge f, int c, int word, int shape, int flags) {
        CHECK.due("member(" + c + ", " + word + ", " + shape + ", " + flags + ")",
            f.member(c, word, shape, flags), Forge.REFUSED);
    }

    /** "A MEMBER of CLASS c (1 to 9): its number." */
    static void promise4NumbersComeInTurn() {
        Forge f = new Forge();
        f.withPlain(9);
        for (int c = 1; c <= 9; c++) {
            CHECK.due("a method of class " + c, f.member(c, 1, 0, 1), 2 * c - 1);
            CHECK.due("a field of class " + c, f.member(c, 1, 0, 0), 2 * c);
            CHECK.due("its class", f.part(2 * c, 2), c);
        }
        CHECK.due("how many", f.count(1), 19);
    }

    /** "CLASS c (1 to 9)": "REFUSED if a number is not as said"; CLASS 0 may have no others. */
    static void promise4ClassIs1To9() {
        Forge f = new Forge();
        f.withPlain(9);
        for (int c : Forge.outside(1, 9)) {
            refused(f, c, 1, 0, 1);
            refused(f, c, 1, 0, 0);
        }
        refused(f, 0, 0, 0, 1);
        CHECK.due("none came", f.count(1), 1);
    }

    /** "c is not THERE" */
    static void promise4ClassIsNotThere() {
        Forge f = new Forge();
        refused(f, 1, 1, 0, 1);
        f.with(1, 0, 0, 0);
        refused(f, 2, 1, 0, 1);
        refused(f, 9, 1, 0, 1);
        CHECK.due("class 1 is there", f.member(1, 1, 0, 1), 1);
        f.drop(1);
        refused(f, 1, 2, 0, 1);
    }

    /** "with a WORD (0 to 7)": METHODS have them all. */
    static void promise4WordOfAMethodIs0To7() {
        Forge f = new Forge();
        f.with(1, 0, 0, 0);
        for (int word : Forge.outside(0, 7)) {
            refused(f, 1, word, 0, 1);
        }
        for (int word = 0; word <= 7; word++) {
            CHECK.due("method " + word, f.member(1, word, 0, 1), word + 1);
            CHECK.due("its word", f.part(word + 1, 3), word);
        }
    }

    /** "FIELDS have only 0 to 5" */
    static void promise4WordOfAFieldIs0To5() {
        Forge f = new Forge();
        f.with(1, 0, 0, 0);
        for (int word : Forge.outside(0, 5)) {
            refused(f, 1, word, 0, 0);
        }
        for (int flags = 0; flags <= 6; flags += 2) {
            refused(f, 1, 6, 0, flags);
            refused(f, 1, 7, 1, flags);
        }
        for (int word = 0; word <= 5; word++) {
            CHECK.due("field " + word, f.member(1, word, 0, 0), word + 1);
            CHECK.due("its word", f.part(word + 1, 3), word);
        }
    }

    /** "and a SHAPE (0, 1)" */
    static void promise4ShapeIs0Or1() {
        Forge f = new Forge();
        f.with(1, 0, 0, 0);
        for (int shape : Forge.outside(0, 1)) {
            refused(f, 1, 1, shape, 1);
            refused(f, 1, 1, shape, 0);
        }
        CHECK.due("shape 0", f.member(1, 1, 0, 1), 1);
        CHECK.due("shape 1", f.member(1, 1, 1, 1), 2);
        CHECK.due("the first has shape", f.part(1, 4), 0);
        CHECK.due("the second has shape", f.part(2, 4), 1);
    }

    /** "flags 1 METHOD, 2 STATIC, 4 PRIVATE (0 to 7)" */
    static void promise4FlagsAre0To7() {
        Forge f = new Forge();
        f.with(1, 0, 0, 0);
        for (int flags : Forge.outside(0, 7)) {
            refused(f, 1, 1, 0, flags);
        }
        for (int flags = 0; flags <= 7; flags++) {
            CHECK.due("flags " + flags, f.member(1, flags / 2, 0, flags), flags + 1);
            CHECK.due("they are told", f.part(flags + 1, 5), flags);
        }
    }

    /** "or has one of this kind, WORD and SHAPE that is not GONE" */
    static void promise4HasOneAlready() {
        Forge f = new Forge();
        f.withPlain(2);
        f.method(1, 1);
        for (int flags = 1; flags <= 7; flags += 2) {
            refused(f, 1, 1, 0, flags);
        }
        CHECK.due("another kind", f.member(1, 1, 0, 0), 2);
        for (int flags = 0; flags <= 6; flags += 2) {
            refused(f, 1, 1, 0, flags);
        }
        CHECK.due("another word", f.member(1, 2, 0, 1), 3);
        CHECK.due("another shape", f.member(1, 1, 1, 1), 4);
        CHECK.due("another class", f.member(2, 1, 0, 1), 5);
    }

    /** "that is not GONE" */
    static void promise4HadOneThatIsGone() {
        Forge f = new Forge();
        f.with(1, 0, 0, 0);
        int first = f.method(1, 1);
        f.remove(first);
        CHECK.due("the first was removed", f.member(1, 1, 0, 1), first + 1);
        refused(f, 1, 1, 0, 1);
        f.drop(1);
        f.with(1, 0, 0, 0);
        CHECK.due("the second was dropped", f.member(1, 1, 0, 1), first + 2);
        refused(f, 1, 1, 0, 1);
        CHECK.due("just the third counts", f.count(1), 2);
    }

    /** "FULL with 40 (MEMBER 0 counts)" */
    static void promise4FullWith40() {
        Forge f = new Forge();
        f.withPlain(9);
        for (int m = 1; m <= 39; m++) {
            CHECK.due("member " + m, f.member(1 + m % 9, m / 9, 0, 1), m);
        }
        CHECK.due("there are 40", f.count(1), 40);
        CHECK.due("the 40th beside member 0", f.member(9, 7, 1, 1), Forge.FULL);
        CHECK.due("a field", f.member(1, 0, 0, 0), Forge.FULL);
        CHECK.due("still 40", f.count(1), 40);
        CHECK.due("the last one", f.part(39, 2), 4);
        CHECK.due("none behind it", f.part(40, 2), Forge.NONE);
    }

    /** They are "numbered 0, 1, .., at most 40", and GONE "for good": these count towards the 40. */
    static void promise4ThoseThatAreGoneCount() {
        Forge f = new Forge();
        f.withAllMembers();
        f.remove(5);
        CHECK.due("one was removed", f.member(1, 0, 0, 0), Forge.FULL);
        f.drop(1);
        f.with(1, 0, 0, 0);
        CHECK.due("16 were dropped", f.member(1, 0, 0, 0), Forge.FULL);
        CHECK.due("how many are left", f.count(1), 24);
    }

    /** FULL is told behind all that is REFUSED. */
    static void promise4RefusedBeforeFull() {
        Forge f = new Forge();
        f.withAllMembers();
        CHECK.due("all is as said", f.member(1, 0, 0, 0), Forge.FULL);
        refused(f, 0, 0, 0, 0);
        refused(f, 10, 0, 0, 0);
        refused(f, 9, 0, 0, 0);
        refused(f, 1, 6, 0, 0);
        refused(f, 1, 8, 0, 1);
        refused(f, 1, 0, 2, 0);
        refused(f, 1, 0, 0, 8);
        refused(f, 1, 0, 0, 1);
    }

    static void promise4RefusedTakesNoNumber() {
        Forge f = new Forge();
        f.with(1, 0, 0, 0);
        f.method(1, 1);
        String before = f.counts();
        refused(f, 1, 1, 0, 1);
        refused(f, 1, 8, 0, 1);
        refused(f, 2, 2, 0, 1);
        refused(f, 1, 2, 2, 1);
        refused(f, 1, 2, 0, 8);
        CHECK.due("all is as before", f.counts(), before);
        CHECK.due("the next number", f.member(1, 2, 0, 1), 2);
    }

    static void promise4FullChangesNothing() {
        Forge f = new Forge();
        f.withAllMembers().ruled("keep class ** { x *; }");
        String before = f.counts();
        CHECK.due("a field of class 1", f.member(1, 0, 0, 0), Forge.FULL);
        CHECK.due("all is as before", f.counts(), before);
        CHECK.due("it is not found", f.found(Forge.FIELD, 1, 0, 0, false), Forge.NONE);
        CHECK.due("it is not there", f.member(1, 0, 0, 0), Forge.FULL);
    }

    static void promise4RoomAfterClearAll() {
        Forge f = new Forge();
        f.withAllMembers();
        f.clear(false);
        CHECK.due("clear(false) makes no room", f.member(1, 0, 0, 0), Forge.FULL);
        f.clear(true);
        f.withPlain(1);
        CHECK.due("clear(true) does", f.member(1, 0, 0, 0), 1);
    }
}
