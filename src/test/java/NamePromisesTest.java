/** Promises 14 to 17: new names, the mapping, names traced back, and counts. */
public final class NamePromisesTest {
    private static final Check CHECK = new Check();
    private static final int NONE = ShrinkForge.NONE;
    private static final int REFUSED = ShrinkForge.REFUSED;
    private static final int FAR = Integer.MAX_VALUE;
    private static final int DEEP = Integer.MIN_VALUE;

    public static void main(String[] args) {
        promise14ClassNames();
        promise14MemberTexts();
        promise14WrongNumbers();
        promise15Mapping();
        promise15LongestMapping();
        promise16TraceClass();
        promise16TraceMember();
        promise16WrongNumbers();
        promise17Count();
        promise17Misses();
        CHECK.end("NamePromisesTest");
    }

    /** Three classes that are needed, one of which keeps its name; class 4 is not needed. */
    private static Forge threeNeeded() {
        Forge f = new Forge();
        f.type(1, 0, 0, 0).type(2, 2, 0, 1).type(3, 1, Forge.FACE, 0).type(4, 1, 0, 0).type(5, 0, 0, 2, 3);
        return f;
    }

    private static void promise14ClassNames() {
        Forge f = threeNeeded();
        f.rule("keep class ** extends p.D");
        CHECK.due("class 0", f.className(0), "o.A");
        CHECK.due("class 1", f.className(1), "a");
        CHECK.due("class 2", f.className(2), "b");
        CHECK.due("class 3", f.className(3), "c");
        CHECK.due("class 4 is not needed", f.className(4), "none");
        CHECK.due("class 5 is kept", f.className(5), "o.F");
        f.rule("keepnames class q.C");
        CHECK.due("class 2 is kept by keepnames", f.className(2), "q.C");
        CHECK.due("class 3 moves up", f.className(3), "b");
        f.rule("keepnames class p.E");
        CHECK.due("kept, but not needed", f.className(4), "none");
    }

    private static void promise14MemberTexts() {
        Forge f = new Forge();
        f.type(1, 0, 0, 0).type(2, 0, 0, 0);
        int from = f.method(1, 5);
        int r = f.field(2, 0);
        int t = f.field(2, 2);
        int s = f.field(1, 1);
        int u = f.method(2, 3);
        int uLow = f.member(2, 3, 1, Forge.METHOD);
        int init = f.method(2, 6);
        int called = f.method(2, 0);
        int calledLow = f.member(2, 0, 1, Forge.METHOD);
        int loose = f.field(1, 0);
        f.refer(from, Forge.FIELD, 2, 0).refer(from, Forge.FIELD, 2, 2).refer(from, Forge.VIRTUAL, 2, 3);
        f.refer(from, Forge.SPECIAL, 2, 6).refer(from, Forge.NEW, 2, 0);
        f.x.refer(from, Forge.VIRTUAL, 2, 3, 1);
        f.x.refer(from, Forge.VIRTUAL, 2, 0, 1);
        f.rule("keep class o.B { m w; f s; }");
        CHECK.due("field r", f.memberText(r), "a");
        CHECK.due("field t, s between being kept", f.memberText(t), "b");
        CHECK.due("field s is kept", f.memberText(s), "s");
        CHECK.due("method u", f.memberText(u), "a");
        CHECK.due("method r with shape 1", f.memberText(calledLow), "a");
        CHECK.due("method u with shape 1", f.memberText(uLow), "b");
        CHECK.due("method w is kept", f.memberText(from), "w");
        CHECK.due("<init>", f.memberText(init), "<init>");
        CHECK.due("method r with shape 0", f.memberText(called), "r");
        CHECK.due("member 0", f.memberText(0), "r");
        CHECK.due("not needed", f.memberText(loose), "none");
        f.rule("keep class o.B { f r; }");
        CHECK.due("r is kept for all", f.memberText(r), "r");
        CHECK.due("field t moves up", f.memberText(t), "a");
    }

    private static void promise14WrongNumbers() {
        Forge f = new Forge();
        f.type(1, 0, 0, 0);
        for (int k : new int[] {-2, 3, FAR, DEEP}) {
            CHECK.due("name(false, 0, " + k + ")", f.x.name(false, 0, k), NONE);
        }
        CHECK.due("name(true, 0, 1)", f.x.name(true, 0, 1), NONE);
        CHECK.due("how many", f.x.name(false, 0, -1), 3);
        for (int c : new int[] {-1, 1, 2, 10, 40, 64, FAR, DEEP}) {
            CHECK.due("name(false, " + c + ", -1)", f.x.name(false, c, -1), NONE);
            CHECK.due("name(true, " + c + ", 0)", f.x.name(true, c, 0), NONE);
        }
    }

    private static void promise15Mapping() {
        Forge f = threeNeeded();
        CHECK.due("nothing but class 0 is needed", f.mapping(), "");
        CHECK.due("no character 0", f.x.mapping(0), NONE);
        f.member(5, 7, 0, Forge.METHOD | Forge.STATIC);
        f.member(5, 2, 1, Forge.METHOD);
        f.field(5, 1);
        f.field(5, 3);
        int up = f.method(2, 0);
        f.rule("keep class ** extends p.D { f s; }");
        f.rule("keepmembers class o.F { m t; }");
        String due = "o.B -> a:\nq.C -> b:\n r(0) -> r\np.D -> c:\no.F -> o.F:\n <clinit>(0) -> <clinit>\n t(1) -> t\n s -> s\n";
        CHECK.due("the mapping", f.mapping(), due);
        CHECK.due("its length", f.x.mapping(-1), due.length());
        for (int k : new int[] {-2, due.length(), FAR, DEEP}) {
            CHECK.due("mapping(" + k + ")", f.x.mapping(k), NONE);
        }
        f.x.refer(2, Forge.FIELD, 5, 3, 0);
        f.x.remove(up);
        due = "o.B -> a:\nq.C -> b:\np.D -> c:\no.F -> o.F:\n <clinit>(0) -> <clinit>\n t(1) -> t\n s -> s\n u -> a\n";
        CHECK.due("the mapping after changes", f.mapping(), due);
    }

    private static void promise15LongestMapping() {
        Forge f = new Forge();
        for (int c = 1; c <= 9; c++) {
            f.type(c, 0, 0, 0);
        }
        int members = 0;
        for (int c = 1; c <= 9; c++) {
            for (int n = 0; n < 4; n++) {
                f.member(c, 7 - n % 2, n / 2, Forge.METHOD);
                members++;
            }
        }
        f.rule("keep class ** { m *; }");
        CHECK.due("the length of the mapping", f.x.mapping(-1), 9 * 12 + members / 2 * (25 + 21));
        CHECK.due("it ends with a new line", f.x.mapping(f.x.mapping(-1) - 1), 10);
    }

    private static void promise16TraceClass() {
        Forge f = threeNeeded();
        f.rule("keep class ** extends p.D");
        f.rule("keepnames class p.E");
        CHECK.due("a new name", f.trace("b", 0, 0, false), 2);
        CHECK.due("the draft stays", f.x.trace(0, 1, true), 2);
        CHECK.due("and can be written on", f.x.letter('b'), 2);
        CHECK.due("no such name", f.x.trace(0, 0, false), NONE);
        CHECK.due("a kept name", f.trace("o.F", 0, 0, false), 5);
        CHECK.due("class 0", f.trace("o.A", 0, 0, false), 0);
        CHECK.due("an old name that is not kept", f.trace("q.C", 0, 0, false), NONE);
        CHECK.due("a kept name of one that is not needed", f.trace("p.E", 0, 0, false), NONE);
        CHECK.due("an empty draft", f.trace("", 0, 0, false), NONE);
        CHECK.due("a letter too many", f.trace("d", 0, 0, false), NONE);
    }

    private static void promise16TraceMember() {
        Forge f = new Forge();
        f.type(1, 0, 0, 0).type(2, 0, 0, 1);
        int from = f.method(1, 5);
        int r = f.field(2, 0);
        int low = f.member(2, 0, 1, 0);
        int t = f.method(2, 2);
        int init = f.method(2, 6);
        int loose = f.method(2, 5);
        f.refer(from, Forge.FIELD, 2, 0).refer(from, Forge.SPECIAL, 2, 2).refer(from, Forge.SPECIAL, 2, 6);
        f.x.refer(from, Forge.FIELD, 2, 0, 1);
        f.rule("keep class o.B { m w; }");
        CHECK.due("<init> is needed", f.x.part(init, 0), 1);
        CHECK.due("a kept text that is not needed", f.x.part(loose, 0), 0);
        CHECK.due("field a", f.trace("a", 'a', 0, false), r);
        CHECK.due("field a with shape 1", f.x.trace('a', 1, false), low);
        CHECK.due("method a", f.x.trace('a', 0, true), t);
        CHECK.due("no method b", f.x.trace('b', 0, true), NONE);
        CHECK.due("an old text that is not kept", f.x.trace('t', 0, true), NONE);
        CHECK.due("w is not needed there", f.x.trace('w', 0, true), NONE);
        CHECK.due("<init> has no letter", f.x.trace('i', 0, true), NONE);
        CHECK.due("w is kept", f.trace("o.B", 'w', 0, true), from);
        CHECK.due("it is no field", f.x.trace('w', 0, false), NONE);
        CHECK.due("a member of another class", f.x.trace('a', 0, false), NONE);
        CHECK.due("member 0", f.trace("o.A", 'r', 0, true), 0);
        CHECK.due("no such class", f.trace("c", 'r', 0, true), NONE);
    }

    private static void promise16WrongNumbers() {
        Forge f = new Forge();
        f.draft("o.A");
        for (int text : new int[] {-1, 1, 96, 123, 'A', '<', FAR, DEEP}) {
            CHECK.due("trace(" + text + ", 0, true)", f.x.trace(text, 0, true), REFUSED);
        }
        for (int shape : new int[] {-1, 2, FAR, DEEP}) {
            CHECK.due("trace(0, " + shape + ", true)", f.x.trace(0, shape, true), REFUSED);
        }
        CHECK.due("trace('a', 0, true)", f.x.trace('a', 0, true), NONE);
        CHECK.due("trace('z', 1, false)", f.x.trace('z', 1, false), NONE);
    }

    private static void promise17Count() {
        Forge f = new Forge();
        f.type(1, 0, 0, 0).type(2, 0, Forge.FACE, 0).type(3, 0, 0, 1, 2).type(4, 0, Forge.ABSTRACT, 0).type(5, 0, 0, 0);
        int from = f.method(3, 1);
        int other = f.method(5, 1);
        f.field(4, 1);
        f.x.remove(f.field(4, 2));
        f.refer(from, Forge.TYPE, 4, 0).refer(from, Forge.FIELD, 4, 1).refer(other, Forge.NEW, 5, 0);
        f.rule("keep class o.D { m s; }");
        f.rule("keepnames class **");
        int[] due = {6, 4, 3, 2, 5, 1, 3, 3, 2, 0};
        for (int what = 0; what <= 9; what++) {
            CHECK.due("count(" + what + ")", f.x.count(what), due[what]);
        }
        for (int what : new int[] {-1, 10, FAR, DEEP}) {
            CHECK.due("count(" + what + ")", f.x.count(what), REFUSED);
        }
    }

    private static void promise17Misses() {
        Forge f = new Forge();
        f.type(1, 0, 0, 0).type(2, 0, 0, 0);
        int from = f.method(1, 1);
        int other = f.method(2, 2);
        f.rule("keep class o.B { m s; }");
        for (int kind = Forge.NEW; kind <= Forge.VIRTUAL; kind++) {
            f.refer(from, kind, 9, 0);
        }
        CHECK.due("c is not there", f.x.count(9), 6);
        for (int kind = Forge.NEW; kind <= Forge.VIRTUAL; kind++) {
            f.refer(from, kind, 2, 4);
        }
        CHECK.due("nothing is found", f.x.count(9), 10);
        f.refer(from, Forge.VIRTUAL, 1, 0).refer(from, Forge.SPECIAL, 1, 1);
        CHECK.due("what is found is no miss", f.x.count(9), 10);
        f.refer(other, Forge.NEW, 9, 0);
        CHECK.due("one of a method that is not needed", f.x.count(9), 10);
        CHECK.due("references of needed methods", f.x.count(8), 14);
        f.x.remove(from);
        CHECK.due("none of them is needed", f.x.count(8), 0);
        CHECK.due("they stay", f.x.count(2), 15);
        CHECK.due("and miss nothing", f.x.count(9), 0);
    }
}
