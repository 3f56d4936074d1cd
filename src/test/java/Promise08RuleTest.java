/** Promise 8: rule, and what the RULES' PATTERNS FIT. */
public final class Promise08RuleTest {
    private static final Check CHECK = new Check();

    public static void main(String[] args) {
        CHECK.runAll(Promise08RuleTest.class);
    }

    private static void reads(String text) {
        Forge f = new Forge();
        CHECK.due("\"" + text + "\"", f.rule(text), 1);
        CHECK.due("a rule came of \"" + text + "\"", f.count(3), 1);
        CHECK.due("the draft is empty after \"" + text + "\"", f.letter('a'), 1);
    }

    private static void stops(int word, String text) {
        Forge f = new Forge();
        CHECK.due("\"" + text + "\"", f.rule(text), -10 - word);
        CHECK.due("no rule came of \"" + text + "\"", f.count(3), 0);
        CHECK.due("the draft is empty after \"" + text + "\"", f.letter('a'), 1);
    }

    /** "becomes a RULE: how many there are" */
    static void promise8HowManyThereAre() {
        Forge f = new Forge();
        for (int n = 1; n <= 8; n++) {
            CHECK.due("rule " + n, f.rule("keep class a"), n);
            CHECK.due("count(3)", f.count(3), n);
        }
    }

    /** "The DRAFT, which is empty then" */
    static void promise8TheDraftIsEmptyThen() {
        Forge f = new Forge();
        CHECK.due("a rule", f.rule("keep class a"), 1);
        CHECK.due("the draft is empty", f.rule(), -11);
        CHECK.due("no rule", f.rule("keep klass"), -12);
        CHECK.due("the draft is empty", f.rule(), -11);
        CHECK.due("another rule", f.rule("keep class b"), 2);
        CHECK.due("the first letter", f.letter('a'), 1);
    }

    /** "keep, keepnames or keepmembers" */
    static void promise8FirstWord() {
        reads("keep class a");
        reads("keepnames class a");
        reads("keepmembers class a");
        for (String word : new String[] {
            "", "k", "kee", "keeps", "keepname", "keepnamess", "keepmember", "keepmemberss", "Keep", "KEEP", "class", "keep;", "*"
        }) {
            stops(1, word + " class a");
        }
        stops(1, " keep class a");
    }

    /** "class" */
    static void promise8SecondWord() {
        for (String word : new String[] {"", "clas", "classes", "Class", "keep", "class;", "*"}) {
            stops(2, "keep " + word + " a");
            stops(2, "keepmembers " + word);
        }
        stops(2, "keep  class a");
    }

    /** "a PATTERN": "one character or more, none of them a blank, ; { or }" */
    static void promise8FirstPattern() {
        for (int c = 33; c <= 126; c++) {
            String pattern = "" + (char) c;
            if (";{}".contains(pattern)) {
                stops(3, "keep class " + pattern);
                stops(3, "keep class a" + pattern);
                stops(3, "keep class " + pattern + "a");
            } else {
                reads("keep class " + pattern);
            }
        }
        stops(3, "keep class ");
        stops(3, "keep class  a");
        stops(3, "keep class a{ m b; }");
        stops(3, "keep class { m b; }");
        reads("keep class class");
        reads("keep class keep");
        reads("keep class extends");
    }

    /** "perhaps extends and a PATTERN" */
    static void promise8Extends() {
        reads("keep class a extends b");
        reads("keepnames class extends extends extends");
        stops(4, "keep class a extend b");
        stops(4, "keep class a extendss b");
        stops(4, "keep class a Extends b");
        stops(4, "keep class extends b");
        for (int c : new int[] {';', '{', '}'}) {
            stops(5, "keep class a extends " + (char) c);
            stops(5, "keep class a extends b" + (char) c);
            stops(5, "keep class a extends " + (char) c + "b");
        }
        stops(5, "keep class a extends  b");
        stops(5, "keep class a extends { m b; }");
        stops(6, "keep class a extends b extends c");
        stops(6, "keep class a extends b c");
        stops(6, "keep class a extends b ");
        stops(6, "keep class a extends b }");
    }

    /** "perhaps {" */
    static void promise8OpeningBrace() {
        reads("keep class a { m b; }");
        reads("keep class a extends b { m b; }");
        for (String word : new String[] {"", "}", "{{", "{}", "b", ";", "m", "("}) {
            stops(4, "keep class a " + word + " m b; }");
            stops(6, "keep class a extends b " + word + " m b; }");
        }
        stops(4, "keep class a {m b; }");
    }

    /** "one or more of" */
    static void promise8OneClauseOrMore() {
        stops(5, "keep class a { }");
        stops(7, "keep class a extends b { }");
        reads("keep class a { f b; }");
        reads("keep class a { f b; m c; }");
        reads("keep class a extends b { f c; m d; x e; }");
        reads("keep class a { f b; m c; x d; f e; m f; x g; f h; m i; }");
    }

    /** "a sort, f (FIELDS), m (METHODS) or x (both)" */
    static void promise8Sort() {
        for (int c = 33; c <= 126; c++) {
            String sort = "" + (char) c;
            if ("fmx".contains(sort)) {
                reads("keep class a { " + sort + " b; }");
                reads("keep class a { m b; " + sort + " c; }");
            } else {
                stops(5, "keep class a { " + sort + " b; }");
                if (c != '}') {
                    stops(7, "keep class a { m b; " + sort + " c; }");
                }
            }
        }
        stops(5, "keep class a {  m b; }");
        stops(5, "keep class a { mm b; }");
        stops(5, "keep class a { b; }");
        stops(7, "keep class a { m b; mf c; }");
        stops(7, "keep class a { m b;  }");
    }

    /** "and a PATTERN with a ; behind it" */
    static void promise8PatternOfAClause() {
        for (String word : new String[] {"", ";", "b", "bc", "b;;", ";b;", ";;", "{;", "};", "b{;", "}b;", "b;c", "b;c;", "{", "}"}) {
            stops(6, "keep class a { m " + word + " }");
            stops(8, "keep class a { m b; f " + word + " }");
        }
        stops(6, "keep class a { m b ; }");
        stops(6, "keep class a { m  b; }");
        reads("keep class a { m m; }");
        reads("keep class a { x <init>; f \"; m '; x ~; }");
    }

    /** "then }" */
    static void promise8ClosingBrace() {
        stops(7, "keep class a { m b; {");
        stops(7, "keep class a { m b; }}");
        stops(7, "keep class a { m b; };");
        stops(6, "keep class a { m b;}");
        stops(8, "keep class a { m b; } ");
        stops(8, "keep class a { m b; } }");
        stops(8, "keep class a { m b; } x");
        stops(10, "keep class a { m b; m c; } x");
        stops(10, "keep class a extends b { m b; } x");
    }

    /** "(behind the last one, 1 more than there are ..)" */
    static void promise8BehindTheLastWord() {
        stops(2, "keep");
        stops(3, "keep class");
        stops(5, "keep class a extends");
        stops(5, "keep class a {");
        stops(6, "keep class a { m");
        stops(7, "keep class a { m b;");
        stops(8, "keep class a { m b; f");
        stops(9, "keep class a { m b; f c;");
        stops(7, "keep class a extends b {");
        stops(9, "keep class a extends b { m c;");
    }

    /** "WORDS are what lies between blanks, also empty ones" */
    static void promise8EmptyWords() {
        stops(1, " ");
        stops(1, "  ");
        stops(2, "keep ");
        stops(3, "keep class ");
        stops(4, "keep class a ");
        stops(4, "keep class a  extends b");
        stops(5, "keep class a extends ");
        stops(6, "keep class a extends b ");
        stops(5, "keep class a { ");
        stops(6, "keep class a { m ");
        stops(7, "keep class a { m b; ");
        stops(1, " ".repeat(60));
        stops(4, "keep class a" + " ".repeat(48));
    }

    /** "an empty DRAFT has one empty WORD" */
    static void promise8EmptyDraft() {
        stops(1, "");
    }

    /** "The DRAFT, at most 60 characters": one of 60 is read to its end. */
    static void promise8DraftOf60() {
        String whole = "keep class a { m b; m c; m d; m e; m f; m g; m h; m iiiii; }";
        CHECK.due("its length", whole.length(), 60);
        reads(whole);
        stops(20, whole.substring(0, 57) + "i }");
        stops(21, whole.substring(0, 59) + "]");
        stops(3, "keep class " + "*".repeat(48) + ";");
        reads("keep class " + "*".repeat(49));
        stops(1, "k".repeat(60));
        stops(22, "keep class a { m b; m c; m d; m e; m f; m g; m h; m i; } xxx");
    }

    /** "FULL .. if there are 8" */
    static void promise8FullWith8() {
        Forge f = new Forge();
        for (int n = 1; n <= 8; n++) {
            f.ruled("keep class a");
        }
        CHECK.due("the ninth", f.rule("keep class a"), Forge.FULL);
        CHECK.due("the ninth again", f.rule("keepnames class b { x c; }"), Forge.FULL);
        CHECK.due("still 8", f.count(3), 8);
    }

    /** "FULL, the DRAFT being empty too" */
    static void promise8FullEmptiesTheDraft() {
        Forge f = new Forge();
        for (int n = 1; n <= 8; n++) {
            f.ruled("keep class a");
        }
        CHECK.due("the ninth", f.rule("keep class b"), Forge.FULL);
        CHECK.due("the draft is empty", f.letter('a'), 1);
    }

    /** "(this last)": what is no RULE is told before FULL. */
    static void promise8NoRuleComesBeforeFull() {
        Forge f = new Forge();
        for (int n = 1; n <= 8; n++) {
            f.ruled("keep class a");
        }
        CHECK.due("an empty draft", f.rule(), -11);
        CHECK.due("one that stops early", f.rule("keep class"), -13);
        CHECK.due("one that stops late", f.rule("keep class a { m b; } x"), -18);
        CHECK.due("the draft is empty", f.letter('k'), 1);
        CHECK.due("still 8", f.count(3), 8);
    }

    /** One for which there is no room does nothing. */
    static void promise8FullChangesNothing() {
        Forge f = new Forge();
        f.withPlain(2);
        int m = f.method(2, 1);
        for (int n = 1; n <= 8; n++) {
            f.ruled("keep class o.B");
        }
        String before = f.counts();
        CHECK.due("the ninth", f.rule("keep class o.C { m s; }"), Forge.FULL);
        CHECK.due("all is as before", f.counts(), before);
        CHECK.due("no rule is about class 2", f.needs(2, 5), Forge.NONE);
        CHECK.due("its member is not meant", f.part(m, 1), 0);
        CHECK.due("rule 7 is about class 1", f.needs(1, 5), 7);
    }

    /** A DRAFT that is no RULE does nothing, however far it reads. */
    static void promise8NoRuleChangesNothing() {
        Forge f = new Forge();
        f.withPlain(2);
        f.ruled("keep class o.B");
        String before = f.counts();
        CHECK.due("it stops at its end", f.rule("keep class o.C { m *; } x"), -18);
        CHECK.due("all is as before", f.counts(), before);
        CHECK.due("the rules are as before", f.needs(1, 5), 0);
        CHECK.due("none is about class 2", f.needs(2, 5), Forge.NONE);
    }

    private static void fitsName(String pattern, boolean due) {
        Forge f = new Forge();
        f.with(2, 1, 0, 0).ruled("keepnames class " + pattern);
        CHECK.due(pattern + " for p.C", f.needs(2, 5), due ? 0 : Forge.NONE);
    }

    /** "It FITS a text if all of it does" and "others for themselves" */
    static void promise8OthersFitThemselves() {
        fitsName("p.C", true);
        for (String pattern : new String[] {
            "p", ".", "C", "p.", ".C", "p.C.", "pp.C", "p.CC", "p.c", "P.C", "o.C", "q.C", "p.B", "p.D", "p,C", "pC", "[p].C",
            "p\\.C", "^p.C$", "p.C|x", "(p.C)", "p+.C", "\\w.\\w", "p..C", "...", "%.%", "p/C", "p:C"
        }) {
            fitsName(pattern, false);
        }
    }

    /** "? for one but ." */
    static void promise8QuestionMark() {
        for (String pattern : new String[] {"?.?", "p.?", "?.C"}) {
            fitsName(pattern, true);
        }
        for (String pattern : new String[] {"???", "p?C", "p.C?", "?p.C", "p.??", "??.C", "?", "??", "????", "p.?C", "?.", ".?"}) {
            fitsName(pattern, false);
        }
    }

    /** "* for any but .", also none of them */
    static void promise8Star() {
        for (String pattern : new String[] {
            "*.*", "p.*", "*.C", "p*.C", "*p.C", "p.C*", "p.*C", "p*.*C*", "*p*.*C*", "*?.?*", "?*.*?", "*.?", "?*.C"
        }) {
            fitsName(pattern, true);
        }
        for (String pattern : new String[] {
            "*", "p*", "*C", "p*C", "*p", "C*", "*?*", "?*?", "*.", ".*", "*.*.*", "?*?.C", "p.?*?", "*x.C", "p.*x*", "*.*.", "*q*.*"
        }) {
            fitsName(pattern, false);
        }
    }

    /** "** for any characters, also none" and "(** is looked for first, from left to right)" */
    static void promise8DoubleStar() {
        for (String pattern : new String[] {
            "**", "***", "****", "*****", "p**", "**C", "p**C", "**p.C", "p.C**", "p**.C", "p.**C", "**.**", "**.*", "***.C",
            "p***C", "?**", "**?", "**?**", "?**?", "**?.?**", "**p**.**C**", "p**?", "**p.**"
        }) {
            fitsName(pattern, true);
        }
        for (String pattern : new String[] {
            "**.", ".**", "**x", "x**", "**x**", "p**x", "**p", "C**", "**..**", "**??", "??**", "**?*p", "p.C**C", "**.**.**", "**o**"
        }) {
            fitsName(pattern, false);
        }
    }

    /** The longest PATTERNS that a DRAFT has room for. */
    static void promise8LongPatterns() {
        Forge f = new Forge();
        f.with(2, 1, 0, 0);
        f.ruled("keep class " + "*".repeat(49));
        CHECK.due("49 stars", f.needs(2, 5), 0);
        f.ruled("keep class p.C" + "*".repeat(46));
        CHECK.due("46 stars behind", f.needs(2, 5), 1);
        f.ruled("keep class " + "*".repeat(46) + "p.C");
        CHECK.due("46 stars before", f.needs(2, 5), 2);
        f.ruled("keep class p.C" + "*".repeat(45) + "?");
        CHECK.due("one character too few", f.needs(2, 5), 2);
        f.ruled("keep class **.C extends o.A" + "*".repeat(33));
        CHECK.due("33 stars behind extends", f.needs(2, 5), 4);
        f.ruled("keep class " + "?".repeat(49));
        CHECK.due("49 question marks", f.needs(2, 5), 4);
    }

    private static void means(String clauses, String due) {
        Forge f = new Forge();
        f.with(1, 0, 0, 0);
        int field = f.field(1, 1);
        int method = f.method(1, 1);
        int init = f.method(1, Forge.INIT);
        int clinit = f.added(1, Forge.CLINIT, 1, Forge.METHOD);
        f.ruled("keep class o.B { " + clauses + " }");
        String got = "" + f.part(field, 0) + f.part(method, 0) + f.part(init, 0) + f.part(clinit, 0);
        CHECK.due(clauses + " for field s, method s, <init>, <clinit>", got, due);
    }

    /** "whose sort and text one of those in { } FITS" */
    static void promise8SortsAndTexts() {
        means("f s;", "1000");
        means("m s;", "0100");
        means("x s;", "1100");
        means("x r;", "0000");
        means("x *;", "1111");
        means("x **;", "1111");
        means("f *;", "1000");
        means("m *;", "0111");
        means("x ?;", "1100");
        means("x ??;", "0000");
        means("x .;", "0000");
        means("x s*;", "1100");
        means("x s?;", "0000");
        means("m <*>;", "0011");
        means("m <??????>;", "0001");
        means("m <????>;", "0010");
        means("m ????????;", "0001");
        means("m <init>;", "0010");
        means("m <clinit>;", "0001");
        means("f <*>;", "0000");
        means("m *init*;", "0011");
        means("m <init;", "0000");
        means("m init;", "0000");
        means("m <cl*;", "0001");
        means("m **>;", "0011");
    }

    /** "one of those": any of the clauses, in any order. */
    static void promise8SeveralClauses() {
        means("f s; m <*t>;", "1011");
        means("f s; m <*it>; m s;", "1111");
        means("m t; m u; f s;", "1000");
        means("f s; f s; f t;", "1000");
        means("m <init>; f r; x s;", "1110");
    }

    /** Each letter of a WORD, of FIELDS and METHODS, with both SHAPES. */
    static void promise8TextsOfWords() {
        for (int word = 0; word <= 5; word++) {
            Forge f = new Forge();
            f.withPlain(1);
            int[] members = new int[24];
            for (int n = 0; n < 24; n++) {
                members[n] = f.added(1, n % 6, n / 6 % 2, n / 12);
            }
            f.ruled("keepnames class o.B { x " + "rstuvw".charAt(word) + "; }");
            for (int n = 0; n < 24; n++) {
                boolean called = n == 12;
                CHECK.due("word " + n % 6, f.part(members[n], 1), n % 6 == word || called ? 1 : 0);
            }
        }
    }

    /** Without { } no MEMBERS are meant. */
    static void promise8WithoutClauses() {
        Forge f = new Forge();
        f.with(1, 0, 0, 0);
        int m = f.method(1, 1);
        f.ruled("keep class o.B { m s; }");
        CHECK.due("meant", f.part(m, 0), 1);
        f.clear(false);
        f.ruled("keep class o.B");
        CHECK.due("not meant", f.part(m, 0), 0);
        CHECK.due("nor is the text kept", f.part(m, 1), 0);
    }

    /** "A RULE is ABOUT a CLASS that is THERE, not 0" */
    static void promise8AboutClassesThere() {
        Forge f = new Forge();
        f.ruled("keep class **");
        CHECK.due("class 0", f.needs(0, 5), Forge.NONE);
        CHECK.due("class 9 is not there", f.needs(9, 5), Forge.NONE);
        f.withPlain(9);
        for (int c = 1; c <= 9; c++) {
            CHECK.due("class " + c, f.needs(c, 5), 0);
        }
        f.drop(9);
        CHECK.due("class 9 went", f.needs(9, 5), Forge.NONE);
        CHECK.due("how many are needed", f.count(4), 9);
        f.clear(false);
        f.ruled("keep class o.A");
        CHECK.due("a rule that names class 0", f.needs(0, 5), Forge.NONE);
        CHECK.due("does not start it", f.needs(0, 2), 0);
    }

    /** "The NAME of a CLASS as text: o, p or q .., a ., the letter number c of A to J." */
    static void promise8NamesOfAllClasses() {
        for (int pack = 0; pack <= 2; pack++) {
            for (int c = 1; c <= 9; c++) {
                Forge f = new Forge();
                f.with(c, pack, 0, 0).ruled("keepnames class " + "opq".charAt(pack) + "." + "ABCDEFGHIJ".charAt(c));
                CHECK.due("class " + c + " in package " + pack, f.needs(c, 5), 0);
                f.with(c, (pack + 1) % 3, 0, 0);
                CHECK.due("class " + c + " in another package", f.needs(c, 5), Forge.NONE);
            }
        }
    }

    /** "with extends, if the other one FITS the NAME of some CLASS ABOVE it" */
    static void promise8AboutWithExtends() {
        Forge f = new Forge();
        f.with(1, 1, Forge.FACE, 0).with(2, 2, 0, 0, 1).with(3, 0, 0, 2).with(4, 0, 0, 0);
        f.ruled("keepnames class ** extends q.*");
        CHECK.due("under its super", f.needs(3, 5), 0);
        CHECK.due("it is not above itself", f.needs(2, 5), Forge.NONE);
        CHECK.due("one beside it", f.needs(4, 5), Forge.NONE);
        f.ruled("keepnames class o.* extends p.B");
        CHECK.due("a face of a super", f.needs(3, 5), 1);
        CHECK.due("the first pattern counts too", f.needs(2, 5), Forge.NONE);
        f.ruled("keepnames class ** extends o.A");
        CHECK.due("class 0 is above all others", f.needs(1, 5), 2);
        CHECK.due("but not above itself", f.needs(0, 5), Forge.NONE);
        f.ruled("keepnames class ** extends *");
        CHECK.due("a pattern that fits no name", f.needs(1, 5), 2);
        f.with(2, 1, 0, 0);
        CHECK.due("the super's name is another", f.needs(3, 5), 2);
    }

    /** A NAME of a CLASS that is not THERE fits nothing. */
    static void promise8ExtendsOneThatIsNotThere() {
        Forge f = new Forge();
        f.with(2, 0, 0, 1).ruled("keepnames class ** extends o.B");
        CHECK.due("it is not there", f.needs(2, 5), Forge.NONE);
        f.with(1, 0, 0, 0);
        CHECK.due("it is there", f.needs(2, 5), 0);
        f.drop(1);
        CHECK.due("it went", f.needs(2, 5), Forge.NONE);
    }
}
