/** Promise 7: letter. */
public final class Promise07LetterTest {
    private static final Check CHECK = new Check();

    public static void main(String[] args) {
        CHECK.runAll(Promise07LetterTest.class);
    }

    /** "A character (32 to 126) comes to the end of the DRAFT: how many it has." */
    static void promise7EachCharacterFrom32To126() {
        for (int from = 32; from <= 126; from += 60) {
            Forge f = new Forge();
            for (int c = from; c <= 126 && c < from + 60; c++) {
                CHECK.due("letter(" + c + ")", f.letter(c), c - from + 1);
            }
        }
    }

    /** "comes to the end of the DRAFT" */
    static void promise7ItComesToTheEnd() {
        Forge f = new Forge();
        f.write("o.");
        CHECK.due("o. names none", f.trace(0, 0, false), Forge.NONE);
        CHECK.due("a third one", f.letter('A'), 3);
        CHECK.due("o.A names class 0", f.trace(0, 0, false), 0);
        CHECK.due("a fourth one", f.letter(' '), 4);
        CHECK.due("o.A with a blank names none", f.trace(0, 0, false), Forge.NONE);
    }

    /** "REFUSED for another one" */
    static void promise7RefusedForAnotherOne() {
        Forge f = new Forge();
        CHECK.due("letter(31)", f.letter(31), Forge.REFUSED);
        CHECK.due("letter(127)", f.letter(127), Forge.REFUSED);
        for (int c : new int[] {0, 9, 10, 13, 128, 255}) {
            CHECK.due("letter(" + c + ")", f.letter(c), Forge.REFUSED);
        }
        for (int c : Forge.outside(32, 126)) {
            CHECK.due("letter(" + c + ")", f.letter(c), Forge.REFUSED);
        }
        for (int wrap : new int[] {256, 65536, 1 << 24, Integer.MIN_VALUE}) {
            CHECK.due("letter('a' + " + wrap + ")", f.letter('a' + wrap), Forge.REFUSED);
        }
        CHECK.due("none came", f.letter('a'), 1);
    }

    /** One that is REFUSED leaves the DRAFT as it is. */
    static void promise7RefusedChangesNothing() {
        Forge f = new Forge();
        f.write("keep ");
        CHECK.due("letter(31)", f.letter(31), Forge.REFUSED);
        CHECK.due("letter(127)", f.letter(127), Forge.REFUSED);
        f.write("class a");
        CHECK.due("what was written is a rule", f.rule(), 1);
    }

    /** "FULL with 60" */
    static void promise7FullWith60() {
        Forge f = new Forge();
        for (int n = 1; n <= 60; n++) {
            CHECK.due("letter " + n, f.letter('a'), n);
        }
        CHECK.due("one more", f.letter('a'), Forge.FULL);
        CHECK.due("a blank", f.letter(' '), Forge.FULL);
        CHECK.due("a tilde", f.letter('~'), Forge.FULL);
    }

    /** One for which there is no room leaves the DRAFT as it is. */
    static void promise7FullChangesNothing() {
        Forge f = new Forge();
        f.write("keep class " + "*".repeat(49));
        CHECK.due("one more", f.letter(';'), Forge.FULL);
        CHECK.due("the 60 are a rule", f.rule(), 1);
        f.write("keep class " + "*".repeat(48));
        CHECK.due("the 60th", f.letter(';'), 60);
        CHECK.due("these 60 are none", f.rule(), -13);
    }

    static void promise7RefusedBeforeFull() {
        Forge f = new Forge();
        f.write("a".repeat(60));
        for (int c : new int[] {31, 127, -1, Integer.MAX_VALUE}) {
            CHECK.due("letter(" + c + ")", f.letter(c), Forge.REFUSED);
        }
        CHECK.due("letter('a')", f.letter('a'), Forge.FULL);
    }

    /** What empties the DRAFT makes room for 60 again. */
    static void promise7RoomAgain() {
        Forge f = new Forge();
        f.write("a".repeat(61));
        f.rule();
        CHECK.due("after rule()", f.letter('a'), 1);
        f.write("a".repeat(59));
        CHECK.due("it is full again", f.letter('a'), Forge.FULL);
        f.clear(false);
        CHECK.due("after clear(false)", f.letter('a'), 1);
        f.write("a".repeat(59));
        f.clear(true);
        CHECK.due("after clear(true)", f.letter('a'), 1);
    }

    /** Letters alone make no RULE and change nothing else. */
    static void promise7NothingElseChanges() {
        Forge f = new Forge();
        f.withPlain(2).ruled("keep class o.B");
        String before = f.counts();
        f.write("keep class o.C");
        CHECK.due("all is as before", f.counts(), before);
    }
}
