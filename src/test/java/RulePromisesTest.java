/** Promises 7 and 8: the draft, the rules and their patterns. */
public final class RulePromisesTest {
    private static final Check CHECK = new Check();

    public static void main(String[] args) {
        promise7Letter();
        promise8RulesThatRead();
        promise8WhereItStops();
        promise8Full();
        promise8NamePatterns();
        promise8TextPatterns();
        promise8Extends();
        CHECK.end("RulePromisesTest");
    }

    private static void promise7Letter() {
        ShrinkForge x = new ShrinkForge();
        for (int c : new int[] {31, 127, -1, 0, 10, 256 + 'a', 65536 + 'a', Integer.MAX_VALUE, Integer.MIN_VALUE}) {
            CHECK.due("letter(" + c + ")", x.letter(c), ShrinkForge.REFUSED);
        }
        CHECK.due("a blank", x.letter(32), 1);
        CHECK.due("a tilde", x.letter(126), 2);
        for (int n = 3; n <= 60; n++) {
            CHECK.due("letter " + n, x.letter('a'), n);
        }
        CHECK.due("with 60", x.letter('a'), ShrinkForge.FULL);
        CHECK.due("refused before full", x.letter(31), ShrinkForge.REFUSED);
        x.rule();
        CHECK.due("empty again", x.letter('a'), 1);
    }

    private static void promise8RulesThatRead() {
        String[] good = {
            "keep class a", "keepnames class *", "keepmembers class ** extends ?", "keep class a { m b; }",
            "keep class a extends b { f c; m d; x e; }", "keep class extends extends extends",
            "keep class class { x x; }", "keep class keep", "keep class <>~!\" { f ?*; }",
        };
        for (String text : good) {
            CHECK.due(text, new Forge().rule(text), 1);
        }
        String longest = "keep class a { m b; m c; m d; m e; m f; m g; m h; m iiiii; }";
        CHECK.due("a draft of 60", longest.length(), 60);
        CHECK.due(longest, new Forge().rule(longest), 1);
    }

    private static void stops(String text, int word) {
        Forge f = new Forge();
        CHECK.due("\"" + text + "\"", f.rule(text), -10 - word);
        CHECK.due("no rule came of \"" + text + "\"", f.x.count(3), 0);
        CHECK.due("the draft is empty after \"" + text + "\"", f.x.letter('a'), 1);
    }

    private static void promise8WhereItStops() {
        stops("", 1);
        stops(" ", 1);
        stops("kee", 1);
        stops("keepname class a", 1);
        stops("Keep class a", 1);
        stops(" keep class a", 1);
        stops("keep", 2);
        stops("keep ", 2);
        stops("keep  class a", 2);
        stops("keep classes a", 2);
        stops("keep class", 3);
        stops("keep class ", 3);
        stops("keep class {", 3);
        stops("keep class a;", 3);
        stops("keep class a}", 3);
        stops("keep class a{ m b; }", 3);
        stops("keep class a ", 4);
        stops("keep class a b", 4);
        stops("keep class a }", 4);
        stops("keep class extends b", 4);
        stops("keep class a extends", 5);
        stops("keep class a extends {", 5);
        stops("keep class a extends  b", 5);
        stops("keep class a extends b c", 6);
        stops("keep class a extends b extends c", 6);
        stops("keep class a {", 5);
        stops("keep class a { ", 5);
        stops("keep class a { }", 5);
        stops("keep class a { k b; }", 5);
        stops("keep class a { mm b; }", 5);
        stops("keep class a { m", 6);
        stops("keep class a { m b }", 6);
        stops("keep class a { m bc }", 6);
        stops("keep class a { m ; }", 6);
        stops("keep class a { m b;; }", 6);
        stops("keep class a { m }; }", 6);
        stops("keep class a { m b;c }", 6);
        stops("keep class a { m }", 6);
        stops("keep class a { m b;", 7);
        stops("keep class a { m b; ", 7);
        stops("keep class a { m b; c; }", 7);
        stops("keep class a { m b; f", 8);
        stops("keep class a { m b; } ", 8);
        stops("keep class a { m b; } }", 8);
        stops("keep class a extends b { m b; } x", 10);
        stops(" ".repeat(60), 1);
        stops("keep class a" + " ".repeat(48), 4);
    }

    private static void promise8Full() {
        Forge f = new Forge();
        for (int n = 1; n <= 8; n++) {
            CHECK.due("rule " + n, f.rule("keep class a"), n);
        }
        CHECK.due("with 8", f.rule("keep class a"), ShrinkForge.FULL);
        CHECK.due("the draft is empty", f.x.letter('k'), 1);
        CHECK.due("what is no rule comes first", f.x.rule(), -11);
        CHECK.due("still 8", f.x.count(3), 8);
    }

    private static void name(String pattern, boolean due) {
        Forge f = new Forge();
        f.type(2, 1, 0, 0);
        f.rule("keepnames class " + pattern);
        CHECK.due(pattern + " for p.C", f.x.needs(2, 3), due ? 1 : 0);
    }

    private static void promise8NamePatterns() {
        for (String pattern : new String[] {
            "p.C", "**", "***", "****", "*.*", "?.?", "p**", "**C", "p.**", "p**.C", "p*.*C", "**.**", "p.C*", "**p.C**",
            "?**", "**?**", "*p.C", "***.C"
        }) {
            name(pattern, true);
        }
        for (String pattern : new String[] {
            "*", "p.c", "P.C", "p?C", "p*C", "???", "p.", ".C", "p.C?", "?p.C", "p.CC", "C", "p.[A-Z]", "o.C", "**.", "*C", "p*"
        }) {
            name(pattern, false);
        }
        Forge f = new Forge();
        f.type(2, 1, 0, 0);
        CHECK.due("a pattern of 49", f.rule("keep class " + "*".repeat(49)), 1);
        CHECK.due("it fits all", f.x.needs(2, 5), 0);
        CHECK.due("a star at the end of 60", f.rule("keep class **.C extends o.A" + "*".repeat(33)), 2);
        CHECK.due("it fits too", f.x.needs(2, 5), 1);
    }

    private static void text(String clause, boolean field, boolean method, boolean init, boolean clinit) {
        Forge f = new Forge();
        f.type(1, 0, 0, 0);
        int s = f.field(1, 1);
        int t = f.method(1, 1);
        int made = f.method(1, 6);
        int begun = f.member(1, 7, 1, Forge.METHOD);
        f.rule("keep class o.B { " + clause + " }");
        CHECK.due(clause + " for field s", f.x.part(s, 0), field ? 1 : 0);
        CHECK.due(clause + " for method s", f.x.part(t, 0), method ? 1 : 0);
        CHECK.due(clause + " for <init>", f.x.part(made, 0), init ? 1 : 0);
        CHECK.due(clause + " for <clinit>", f.x.part(begun, 0), clinit ? 1 : 0);
    }

    private static void promise8TextPatterns() {
        text("f s;", true, false, false, false);
        text("m s;", false, true, false, false);
        text("x s;", true, true, false, false);
        text("x r;", false, false, false, false);
        text("x *;", true, true, true, true);
        text("f **;", true, false, false, false);
        text("x ?;", true, true, false, false);
        text("m <*>;", false, false, true, true);
        text("m <??????>;", false, false, false, true);
        text("m <init>;", false, false, true, false);
        text("m <clinit>;", false, false, false, true);
        text("m *init*;", false, false, true, true);
        text("f s; m <*t>;", true, false, true, true);
        text("m t; m u; f s;", true, false, false, false);
    }

    private static void promise8Extends() {
        Forge f = new Forge();
        f.type(1, 1, Forge.FACE, 0).type(2, 2, 0, 0, 1).type(3, 0, 0, 2);
        f.rule("keepnames class ** extends q.*");
        CHECK.due("a super", f.x.needs(3, 5), 0);
        CHECK.due("it is not above itself", f.x.needs(2, 5), ShrinkForge.NONE);
        f.rule("keepnames class o.* extends p.B");
        CHECK.due("a face of a super", f.x.needs(3, 5), 1);
        CHECK.due("the first pattern counts too", f.x.needs(2, 5), ShrinkForge.NONE);
        f.rule("keepnames class ** extends o.A");
        CHECK.due("class 0 is above all", f.x.needs(1, 5), 2);
        CHECK.due("no rule is about class 0", f.x.needs(0, 5), ShrinkForge.NONE);
    }
}
