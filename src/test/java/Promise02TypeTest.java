/** Promise 2: type, and how CLASSES stand to one another. */
public final class Promise02TypeTest {
    private static final Check CHECK = new Check();

    public static void main(String[] args) {
        CHECK.runAll(Promise02TypeTest.class);
    }

    private static void above(Forge f, String when, int c, int due) {
        CHECK.due(when + ": how many are above class " + c, f.needs(c, 4), due);
    }

    /** "CLASS c (1 to 9) is THERE" */
    static void promise2ClassIs1To9() {
        Forge f = new Forge();
        for (int c : Forge.outside(1, 9)) {
            CHECK.due("type(" + c + ", ..)", f.type(c, 0, 0, 0, 0), false);
        }
        CHECK.due("nothing came", f.count(0), 1);
        for (int c = 1; c <= 9; c++) {
            CHECK.due("type(" + c + ", ..)", f.type(c, 0, 0, 0, 0), true);
            CHECK.due("it is there", f.needs(c, 0), 0);
            CHECK.due("so many are", f.count(0), c + 1);
        }
    }

    /** "PACKAGE pack (0 to 2)", seen by the letter of the NAME. */
    static void promise2PackageIs0To2() {
        for (int pack = 0; pack <= 2; pack++) {
            Forge f = new Forge();
            CHECK.due("type(3, " + pack + ", ..)", f.type(3, pack, 0, 0, 0), true);
            f.ruled("keep class **");
            CHECK.due("its name", f.className(3), "opq".charAt(pack) + ".D");
            for (int bad : Forge.outside(0, 2)) {
                CHECK.due("type(3, " + bad + ", ..)", f.type(3, bad, 0, 0, 0), false);
            }
            CHECK.due("its name is the same", f.className(3), "opq".charAt(pack) + ".D");
        }
    }

    /** "flags 1 FACE, 2 ABSTRACT (0 to 3)" */
    static void promise2FlagsAre0To3() {
        for (int flags = 0; flags <= 3; flags++) {
            Forge f = new Forge();
            CHECK.due("type with flags " + flags, f.type(3, 0, flags, 0, 0), true);
            f.with(4, 0, 0, 0, 3).ruled("keep class o.D");
            for (int bad : Forge.outside(0, 3)) {
                CHECK.due("type with flags " + bad, f.type(3, 0, bad, 0, 0), false);
            }
            CHECK.due("made by keep with flags " + flags, f.needs(3, 1), flags == 0 ? 1 : 0);
            above(f, "a face with flags " + flags, 4, flags % 2 == 1 ? 2 : 1);
        }
    }

    /** "SUPER above (0 to c - 1)" */
    static void promise2SuperIs0ToCLess1() {
        Forge f = new Forge();
        for (int c = 1; c <= 9; c++) {
            for (int good = 0; good < c; good++) {
                CHECK.due("class " + c + " with super " + good, f.type(c, 0, 0, good, 0), true);
            }
            for (int bad : Forge.outside(0, c - 1)) {
                CHECK.due("class " + c + " with super " + bad, f.type(c, 0, 0, bad, 0), false);
            }
            above(f, "each has the one before it as super", c, c);
        }
    }

    /** "FACES (0 to 1023 ..)" */
    static void promise2FacesAre0To1023() {
        Forge f = new Forge();
        for (int faces : new int[] {0, 1, 512, 1022, 1023}) {
            CHECK.due("faces " + faces, f.type(9, 0, 0, 0, faces), true);
        }
        for (int bad : Forge.outside(0, 1023)) {
            CHECK.due("faces " + bad, f.type(8, 0, 0, 0, bad), false);
        }
        CHECK.due("just class 9 came", f.count(0), 2);
    }

    /** "of which only those below c count" */
    static void promise2OnlyFacesBelowCount() {
        Forge f = new Forge();
        for (int c = 1; c <= 9; c++) {
            f.with(c, 0, Forge.FACE, 0);
        }
        for (int c = 9; c >= 1; c--) {
            CHECK.due("all bits", f.type(c, 0, Forge.FACE, 0, 1023), true);
            above(f, "all faces below it and class 0", c, c);
        }
        f.with(5, 0, 0, 0, 5);
        above(f, "itself does not count", 5, 1);
        f.with(5, 0, 0, 0, 6);
        above(f, "one more does not count", 5, 1);
        f.with(5, 0, 0, 0, 4).with(4, 0, Forge.FACE, 0);
        above(f, "one less counts", 5, 2);
    }

    /** "just those count that are THERE and FACES" */
    static void promise2FacesThatAreNoFacesOrNotThere() {
        Forge f = new Forge();
        f.with(3, 0, 0, 0, 0, 1, 2);
        above(f, "neither is there", 3, 1);
        f.with(1, 0, 0, 0).with(2, 0, Forge.ABSTRACT, 0);
        above(f, "neither is a face", 3, 1);
        f.with(1, 0, Forge.FACE, 0);
        above(f, "one is a face now", 3, 2);
        f.with(2, 0, Forge.FACE | Forge.ABSTRACT, 0);
        above(f, "both are", 3, 3);
        f.drop(1);
        above(f, "one is gone", 3, 2);
        f.with(2, 0, 0, 0);
        above(f, "the other is a class again", 3, 1);
    }

    /** "False, changing nothing, if a number is not as said." */
    static void promise2FalseChangesNothing() {
        Forge f = new Forge();
        f.with(1, 0, 0, 0).with(2, 0, Forge.FACE, 0).with(5, 1, 0, 1, 2);
        int m = f.method(5, 1);
        f.ruled("keep class p.F { m s; }").write("ab");
        int[][] bad = {
            {0, 2, 3, 0, 0}, {10, 2, 3, 0, 0}, {5, 3, 3, 0, 0}, {5, -1, 3, 0, 0}, {5, 2, 4, 0, 0}, {5, 2, -1, 0, 0},
            {5, 2, 3, 5, 0}, {5, 2, 3, -1, 0}, {5, 2, 3, 0, 1024}, {5, 2, 3, 0, -1}, {6, 0, 0, 6, 0}, {6, 3, 0, 0, 0},
            {1, 0, 0, 1, 0}, {9, 0, 0, 9, 0}, {9, 0, 0, 0, Integer.MIN_VALUE}, {7, Integer.MAX_VALUE, 0, 0, 0}
        };
        for (int[] b : bad) {
            CHECK.due("type with a wrong number", f.type(b[0], b[1], b[2], b[3], b[4]), false);
            CHECK.due("the classes and all else", f.counts(), "4 2 0 1 4 1 3 2 0 0");
            CHECK.due("the package", f.className(5), "p.F");
            above(f, "super and faces", 5, 3);
            CHECK.due("the member", f.part(m, 2), 5);
        }
        CHECK.due("the draft", f.letter('c'), 3);
    }

    /** "(Its MEMBERS stay.)" */
    static void promise2MembersStay() {
        Forge f = new Forge();
        f.with(3, 0, 0, 0);
        int m = f.method(3, 1);
        int field = f.added(3, 5, 1, Forge.STATIC);
        f.with(3, 2, Forge.FACE, 2, 1);
        CHECK.due("the method", f.part(m, 2), 3);
        CHECK.due("the field", f.part(field, 2), 3);
        CHECK.due("both", f.count(1), 3);
        CHECK.due("one like it", f.member(3, 1, 0, 1), Forge.REFUSED);
        CHECK.due("it is found", f.found(Forge.VIRTUAL, 3, 1, 0, false), m);
    }

    /** A CLASS that is THERE is told anew as a whole. */
    static void promise2AgainTellsAllAnew() {
        Forge f = new Forge();
        f.with(1, 0, 0, 0).with(2, 0, Forge.FACE, 0).with(3, 0, Forge.ABSTRACT, 1, 2).ruled("keep class *.D");
        above(f, "first", 3, 3);
        CHECK.due("first: made", f.needs(3, 1), 0);
        f.with(3, 1, 0, 0);
        above(f, "anew", 3, 1);
        CHECK.due("anew: made", f.needs(3, 1), 1);
        CHECK.due("anew: name", f.className(3), "p.D");
        CHECK.due("as many classes", f.count(0), 4);
    }

    /** "If its SUPER is not THERE, or is a FACE, CLASS 0 is" */
    static void promise2SuperThatDoesNotCount() {
        Forge f = new Forge();
        f.with(3, 0, 0, 2).with(4, 0, 0, 3);
        above(f, "its super was never there", 3, 1);
        above(f, "nor was the super's", 4, 2);
        f.with(1, 0, 0, 0).with(2, 0, 0, 1);
        above(f, "it came later", 4, 4);
        f.drop(2);
        above(f, "it went", 4, 2);
        f.with(2, 0, Forge.FACE, 1);
        above(f, "it is a face now", 4, 2);
        f.with(2, 0, Forge.ABSTRACT, 1);
        above(f, "it is an abstract class now", 4, 4);
    }

    /** "that of a FACE is always CLASS 0" */
    static void promise2SuperOfAFaceIs0() {
        Forge f = new Forge();
        f.with(1, 0, 0, 0).with(2, 0, 0, 1).with(3, 0, Forge.FACE, 2).with(4, 0, Forge.FACE | Forge.ABSTRACT, 2);
        above(f, "a face", 3, 1);
        above(f, "an abstract face", 4, 1);
        f.with(3, 0, 0, 2);
        above(f, "the same as a class", 3, 3);
    }

    /** "its LINE but itself, the FACES of all of its LINE, and of these, and so on" */
    static void promise2AboveGoesOn() {
        Forge f = new Forge();
        f.with(1, 0, Forge.FACE, 0).with(2, 0, Forge.FACE, 0, 1).with(3, 0, Forge.FACE, 0, 2);
        f.with(4, 0, 0, 0, 3).with(5, 0, 0, 4).with(6, 0, 0, 5).with(7, 0, Forge.FACE, 0);
        above(f, "faces of faces", 3, 3);
        above(f, "through the super's super", 6, 6);
        above(f, "class 0", 0, 0);
        f.with(6, 0, 0, 5, 1, 2, 3);
        above(f, "each counts once", 6, 6);
        f.with(2, 0, Forge.FACE, 0);
        f.with(6, 0, 0, 5);
        above(f, "the chain of faces is cut", 6, 5);
    }

    /** The longest LINE: all ten. */
    static void promise2LongestLine() {
        Forge f = new Forge();
        for (int c = 9; c >= 1; c--) {
            f.with(c, 0, 0, c - 1);
        }
        above(f, "all are", 9, 9);
        CHECK.due("member 0 is found from its end", f.found(Forge.VIRTUAL, 9, 0, 0, false), 0);
        f.drop(5);
        above(f, "cut in the middle", 9, 4);
    }
}
