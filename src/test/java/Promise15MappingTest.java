/** Promise 15: mapping. */
public final class Promise15MappingTest {
    private static final Check CHECK = new Check();

    public static void main(String[] args) {
        CHECK.runAll(Promise15MappingTest.class);
    }

    /** "for each CLASS that is NEEDED, but 0": with no other there is no character. */
    static void promise15Empty() {
        Forge f = new Forge();
        f.withPlain(9);
        f.method(1, 1);
        CHECK.due("how many", f.mapping(-1), 0);
        for (int k : Forge.outside(-1, -1)) {
            CHECK.due("mapping(" + k + ")", f.mapping(k), Forge.NONE);
        }
        CHECK.due("mapping(0)", f.mapping(0), Forge.NONE);
    }

    /** "its old NAME, a blank, -, >, a blank, its new NAME (or the old one), a :, character 10" */
    static void promise15RowOfAClass() {
        Forge f = new Forge();
        f.with(1, 2, 0, 0).with(2, 1, 0, 1).ruled("keep class p.C");
        CHECK.due("the mapping", f.mappingText(), "q.B -> a:\np.C -> p.C:\n");
        f.ruled("keepnames class q.B");
        CHECK.due("both kept", f.mappingText(), "q.B -> q.B:\np.C -> p.C:\n");
    }

    /** "by numbers", whatever order the CLASSES came in and whatever is not NEEDED. */
    static void promise15ClassesByNumbers() {
        Forge f = new Forge();
        f.with(9, 2, 0, 4, 3).with(5, 1, 0, 0).with(4, 0, 0, 0).with(3, 1, Forge.FACE, 0).ruled("keep class q.*");
        CHECK.due("the mapping", f.mappingText(), "p.D -> a:\no.E -> b:\nq.J -> q.J:\n");
    }

    /** "a blank, the old text, a blank if it is a FIELD, .. -, >, a blank, the new text, character 10" */
    static void promise15RowOfAField() {
        Forge f = new Forge();
        f.with(1, 0, 0, 0);
        f.added(1, 5, 1, Forge.STATIC);
        f.ruled("keep class o.B { f w; }");
        CHECK.due("kept", f.mappingText(), "o.B -> o.B:\n w -> w\n");
        f.with(2, 0, 0, 0);
        int from = f.method(1, 1);
        f.field(2, 3);
        f.ruled("keep class o.B { m s; }").refers(from, Forge.FIELD, 2, 3);
        CHECK.due("new", f.mappingText(), "o.B -> o.B:\n w -> w\n s(0) -> s\no.C -> a:\n u -> a\n");
    }

    /** "else ( and its SHAPE as a digit and ) and a blank" */
    static void promise15RowOfAMethod() {
        Forge f = new Forge();
        f.with(1, 0, 0, 0).with(2, 0, 0, 0);
        int from = f.added(1, 1, 1, Forge.METHOD);
        f.added(2, 2, 0, Forge.METHOD);
        f.added(2, 2, 1, Forge.METHOD);
        f.ruled("keep class o.B { m s; }").refers(from, Forge.SPECIAL, 2, 2, 0).refers(from, Forge.SPECIAL, 2, 2, 1);
        CHECK.due("the mapping", f.mappingText(), "o.B -> o.B:\n s(1) -> s\no.C -> a:\n t(0) -> a\n t(1) -> a\n");
    }

    /** WORDS 6 and 7 are told as <init> and <clinit>. */
    static void promise15LongTexts() {
        Forge f = new Forge();
        f.with(1, 0, 0, 0);
        f.added(1, Forge.CLINIT, 0, Forge.METHOD | Forge.STATIC);
        f.added(1, Forge.INIT, 1, Forge.METHOD);
        f.ruled("keep class o.B { m <init>; }");
        CHECK.due("the mapping", f.mappingText(), "o.B -> o.B:\n <clinit>(0) -> <clinit>\n <init>(1) -> <init>\n");
    }

    /** "for each of its MEMBERS that are NEEDED, by numbers": not by WORDS, and FIELDS among METHODS. */
    static void promise15MembersByNumbers() {
        Forge f = new Forge();
        f.withPlain(2);
        f.method(2, 5);
        f.method(1, 4);
        f.field(2, 4);
        f.method(2, 1);
        f.field(1, 2);
        f.method(2, 0);
        int gone = f.method(1, 3);
        f.method(1, 1);
        f.remove(gone);
        f.ruled("keep class ** { x v; x w; m u; f t; }");
        CHECK.due("the mapping", f.mappingText(), "o.B -> o.B:\n v(0) -> v\n t -> t\no.C -> o.C:\n w(0) -> w\n v -> v\n r(0) -> r\n");
    }

    /** "Character k of it; with k = -1 how many there are; NONE for another k" */
    static void promise15AnotherK() {
        Forge f = new Forge();
        f.with(1, 0, 0, 0).ruled("keep class o.B");
        int length = "o.B -> o.B:\n".length();
        CHECK.due("mapping(-1)", f.mapping(-1), length);
        CHECK.due("the first", f.mapping(0), 'o');
        CHECK.due("the last", f.mapping(length - 1), 10);
        CHECK.due("behind the last", f.mapping(length), Forge.NONE);
        CHECK.due("mapping(-2)", f.mapping(-2), Forge.NONE);
        for (int k : Forge.outside(-1, length - 1)) {
            CHECK.due("mapping(" + k + ")", f.mapping(k), Forge.NONE);
        }
    }

    /** The longest one: nine CLASSES that keep their NAMES and 39 MEMBERS with the longest texts. */
    static void promise15Longest() {
        Forge f = new Forge();
        f.withPlain(9);
        for (int m = 0; m < 39; m++) {
            int c = 1 + m % 9;
            f.added(c, m < 18 ? Forge.CLINIT : m < 36 ? Forge.INIT : 1, m / 9 % 2, Forge.METHOD);
        }
        f.ruled("keep class ** { m *; }");
        int length = 9 * 12 + 18 * 25 + 18 * 21 + 3 * 11;
        CHECK.due("how many", f.mapping(-1), length);
        CHECK.due("the last", f.mapping(length - 1), 10);
        CHECK.due("the last but one", f.mapping(length - 2), '>');
        CHECK.due("behind the last", f.mapping(length), Forge.NONE);
        String start = "o.B -> o.B:\n <clinit>(0) -> <clinit>\n <clinit>(1) -> <clinit>\n <init>(0) -> <init>\n";
        String next = " <init>(1) -> <init>\n s(0) -> s\no.C -> o.C:\n";
        for (int k = 0; k < (start + next).length(); k++) {
            CHECK.due("mapping(" + k + ")", f.mapping(k), (start + next).charAt(k));
        }
    }

    /** It is told anew behind each change. */
    static void promise15ChangesShowAtOnce() {
        Forge f = new Forge();
        f.with(1, 0, 0, 0).ruled("keep class ** { m s; }");
        CHECK.due("a class", f.mapping(-1), 12);
        int m = f.method(1, 1);
        CHECK.due("a member", f.mapping(-1), 12 + 11);
        f.with(2, 0, 0, 0);
        CHECK.due("another class", f.mapping(-1), 2 * 12 + 11);
        f.remove(m);
        CHECK.due("no member", f.mapping(-1), 2 * 12);
        f.drop(2);
        CHECK.due("one class", f.mapping(-1), 12);
        f.with(1, 2, 0, 0);
        CHECK.due("another name", f.mapping(0), 'q');
        f.clear(false);
        CHECK.due("no rules", f.mapping(-1), 0);
    }
}
