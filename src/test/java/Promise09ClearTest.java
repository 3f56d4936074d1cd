/** Promise 9: clear. */
public final class Promise09ClearTest {
    private static final Check CHECK = new Check();
    private static final String NEW_OBJECT = "1 1 0 0 1 0 0 1 0 0";

    public static void main(String[] args) {
        CHECK.runAll(Promise09ClearTest.class);
    }

    /** Two CLASSES, two MEMBERS, a REFERENCE, two RULES and three letters of a DRAFT. */
    private static Forge filled() {
        Forge f = new Forge();
        f.with(1, 1, 0, 0).with(2, 0, 0, 0);
        int m = f.method(1, 1);
        f.field(2, 1);
        f.refers(m, Forge.NEW, 2, 0).ruled("keep class p.B { m s; }").ruled("keepnames class **").write("abc");
        return f;
    }

    /** "how many RULES there were": none, some, all. */
    static void promise9HowManyRulesThereWere() {
        for (int rules = 0; rules <= 8; rules++) {
            Forge f = new Forge();
            for (int n = 0; n < rules; n++) {
                f.ruled("keep class a");
            }
            CHECK.due("clear of " + rules, f.clear(rules % 2 == 0), rules);
            CHECK.due("clear again", f.clear(rules % 2 == 1), 0);
        }
    }

    /** "No RULES" */
    static void promise9NoRules() {
        for (boolean all : new boolean[] {false, true}) {
            Forge f = filled();
            CHECK.due("clear", f.clear(all), 2);
            CHECK.due("no rules", f.count(3), 0);
            f.with(1, 1, 0, 0);
            CHECK.due("none is about class 1", f.needs(1, 5), Forge.NONE);
            CHECK.due("it is not needed", f.state(1), "000");
            CHECK.due("it does not keep its name", f.needs(1, 3), 0);
            CHECK.due("the next rule is the first", f.rule("keep class a"), 1);
        }
    }

    /** A ninth RULE has room behind clear. */
    static void promise9RoomForRules() {
        Forge f = new Forge();
        for (int n = 1; n <= 8; n++) {
            f.ruled("keep class a");
        }
        CHECK.due("the ninth", f.rule("keep class a"), Forge.FULL);
        f.clear(false);
        CHECK.due("the first again", f.rule("keep class a"), 1);
    }

    /** "an empty DRAFT" */
    static void promise9EmptyDraft() {
        for (boolean all : new boolean[] {false, true}) {
            Forge f = filled();
            f.clear(all);
            CHECK.due("rule() of an empty draft", f.rule(), -11);
            f.write("keep class a");
            f.clear(all);
            CHECK.due("the first letter", f.letter('k'), 1);
        }
    }

    /** With all false CLASSES, MEMBERS and REFERENCES stay. */
    static void promise9WithAllFalse() {
        Forge f = filled();
        f.clear(false);
        CHECK.due("what is left", f.counts(), "3 3 1 0 1 0 0 1 0 0");
        CHECK.due("its package stays", f.ruled("keep class p.B").needs(1, 5), 0);
        CHECK.due("its member stays", f.part(1, 2), 1);
    }

    /** "with all true also no CLASSES but 0" */
    static void promise9NoClassesBut0() {
        Forge f = filled();
        f.clear(true);
        CHECK.due("classes", f.count(0), 1);
        for (int c = 1; c <= 9; c++) {
            CHECK.due("class " + c, f.needs(c, 0), Forge.NONE);
            CHECK.due("drop(" + c + ")", f.drop(c), false);
        }
        CHECK.due("class 0", f.needs(0, 0), 1);
        CHECK.due("its name", f.className(0), "o.A");
    }

    /** "no MEMBERS but 0" */
    static void promise9NoMembersBut0() {
        Forge f = new Forge();
        f.withAllMembers();
        f.clear(true);
        CHECK.due("members", f.count(1), 1);
        for (int m = 1; m <= 39; m++) {
            CHECK.due("member " + m, f.part(m, 2), Forge.NONE);
        }
        CHECK.due("member 0", f.part(0, 5), Forge.METHOD);
        f.with(1, 0, 0, 0);
        CHECK.due("member 0 is found", f.found(Forge.VIRTUAL, 1, 0, 0, true), 0);
        CHECK.due("no other is", f.found(Forge.VIRTUAL, 1, 1, 0, false), Forge.NONE);
        CHECK.due("numbers begin anew", f.member(1, 1, 0, 1), 1);
    }

    /** "no REFERENCES" */
    static void promise9NoReferences() {
        Forge f = filled();
        f.clear(true);
        CHECK.due("references", f.count(2), 0);
        f.with(1, 1, 0, 0).with(2, 0, 0, 0);
        int m = f.method(1, 1);
        f.ruled("keep class p.B { m s; }");
        CHECK.due("member 1 has none", f.count(8), 0);
        CHECK.due("and needs nothing", f.needs(2, 0), 0);
        CHECK.due("the next one is the first", f.refer(m, 1, 2, 0, 0), 1);
    }

    /** Behind clear(true) all is as in a new object. */
    static void promise9AllIsAsNew() {
        Forge f = filled();
        CHECK.due("before", f.counts(), "3 3 1 2 3 2 3 2 1 0");
        f.clear(true);
        CHECK.due("after", f.counts(), NEW_OBJECT);
        CHECK.due("the mapping", f.mapping(-1), 0);
        f.clear(true);
        CHECK.due("after once more", f.counts(), NEW_OBJECT);
    }

    /** Clear of a new object does nothing. */
    static void promise9OfANewObject() {
        for (boolean all : new boolean[] {false, true}) {
            Forge f = new Forge();
            CHECK.due("clear", f.clear(all), 0);
            CHECK.due("after", f.counts(), NEW_OBJECT);
        }
    }

    /** CLASSES and MEMBERS that come later have nothing of those that had their numbers. */
    static void promise9NothingIsLeftOfTheOld() {
        Forge f = new Forge();
        f.with(1, 2, Forge.FACE, 0).with(2, 1, Forge.ABSTRACT, 0, 1).with(3, 0, 0, 2);
        f.method(2, 1);
        f.added(2, 5, 1, Forge.STATIC);
        f.clear(true);
        f.with(3, 0, 0, 2, 1);
        CHECK.due("its super and face are not there", f.needs(3, 4), 1);
        f.with(2, 0, 0, 0);
        CHECK.due("its super is there", f.needs(3, 4), 2);
        CHECK.due("a static one takes number 1", f.member(2, 1, 0, Forge.METHOD | Forge.STATIC), 1);
        CHECK.due("it is not selected", f.selected(3, 1, 0, false), Forge.NONE);
        CHECK.due("it is found", f.found(Forge.VIRTUAL, 3, 1, 0, false), 1);
        CHECK.due("the old field is not", f.found(Forge.FIELD, 2, 5, 1, false), Forge.NONE);
    }
}
