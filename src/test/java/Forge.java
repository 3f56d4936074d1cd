import java.util.ArrayList;
import java.util.List;

/**
 * A ShrinkForge for tests: the calls of the face, which are counted, as the document promises
 * nothing after the 512th; and what tests do in several calls.
 */
final class Forge {
    static final int REFUSED = ShrinkForge.REFUSED;
    static final int NONE = ShrinkForge.NONE;
    static final int FULL = ShrinkForge.FULL;

    static final int FACE = 1;
    static final int ABSTRACT = 2;
    static final int METHOD = 1;
    static final int STATIC = 2;
    static final int PRIVATE = 4;

    static final int NEW = 0;
    static final int TYPE = 1;
    static final int FIELD = 2;
    static final int STATICALLY = 3;
    static final int SPECIAL = 4;
    static final int VIRTUAL = 5;

    static final int INIT = 6;
    static final int CLINIT = 7;

    private static final int MOST_CALLS = 512;

    private final ShrinkForge forge = new ShrinkForge();
    private int calls = 0;

    /** Numbers beside least to most: next to them, far off, and such as a cut to few bits lets in. */
    static List<Integer> outside(int least, int most) {
        int[] tried = {
            least - 1, most + 1, -1, least - 10, most + 10, least + 32, least + 64, most + 64, least + 256,
            least + 65536, most + 65536, least + Integer.MIN_VALUE, Integer.MIN_VALUE, Integer.MAX_VALUE
        };
        List<Integer> numbers = new ArrayList<>();
        for (int number : tried) {
            if (number < least || number > most) {
                numbers.add(number);
            }
        }
        return numbers;
    }

    // ---- the face

    private ShrinkForge call() {
        calls++;
        if (calls > MOST_CALLS) {
            throw new IllegalStateException("a test makes more calls than the document speaks of");
        }
        return forge;
    }

    boolean type(int c, int pack, int flags, int above, int faces) {
        return call().type(c, pack, flags, above, faces);
    }

    boolean drop(int c) {
        return call().drop(c);
    }

    int member(int c, int word, int shape, int flags) {
        return call().member(c, word, shape, flags);
    }

    boolean remove(int m) {
        return call().remove(m);
    }

    int refer(int m, int kind, int c, int word, int shape) {
        return call().refer(m, kind, c, word, shape);
    }

    int letter(int c) {
        return call().letter(c);
    }

    int rule() {
        return call().rule();
    }

    int clear(boolean all) {
        return call().clear(all);
    }

    int needs(int c, int what) {
        return call().needs(c, what);
    }

    int part(int m, int what) {
        return call().part(m, what);
    }

    int found(int kind, int c, int word, int shape, boolean needed) {
        return call().found(kind, c, word, shape, needed);
    }

    int selected(int d, int word, int shape, boolean needed) {
        return call().selected(d, word, shape, needed);
    }

    int name(boolean member, int c, int k) {
        return call().name(member, c, k);
    }

    int mapping(int k) {
        return call().mapping(k);
    }

    int trace(int text, int shape, boolean method) {
        return call().trace(text, shape, method);
    }

    int count(int what) {
        return call().count(what);
    }

    // ---- what must go well, or the test itself is wrong

    private static void mustHold(boolean well, String what) {
        if (!well) {
            throw new IllegalStateException(what + " was not taken");
        }
    }

    Forge with(int c, int pack, int flags, int above, int... faces) {
        int set = 0;
        for (int face : faces) {
            set |= 1 << face;
        }
        mustHold(type(c, pack, flags, above, set), "type " + c);
        return this;
    }

    /** CLASSES from 1 on, all plain ones of PACKAGE 0 right under CLASS 0. */
    Forge withPlain(int number) {
        for (int c = 1; c <= number; c++) {
            with(c, 0, 0, 0);
        }
        return this;
    }

    int added(int c, int word, int shape, int flags) {
        int m = member(c, word, shape, flags);
        mustHold(m > 0, "member of " + c);
        return m;
    }

    int method(int c, int word) {
        return added(c, word, 0, METHOD);
    }

    int field(int c, int word) {
        return added(c, word, 0, 0);
    }

    /** MEMBERS 1 to 39 of CLASSES 1 to 3, so that there are 40. */
    Forge withAllMembers() {
        withPlain(3);
        for (int m = 1; m < 40; m++) {
            int at = m - 1;
            added(1 + at / 16, at % 8, at / 8 % 2, METHOD);
        }
        return this;
    }

    Forge refers(int m, int kind, int c, int word, int shape) {
        mustHold(refer(m, kind, c, word, shape) > 0, "refer of " + m);
        return this;
    }

    Forge refers(int m, int kind, int c, int word) {
        return refers(m, kind, c, word, 0);
    }

    Forge ruled(String text) {
        mustHold(rule(text) > 0, text);
        return this;
    }

    // ---- texts in place of characters

    void write(String text) {
        for (int at = 0; at < text.length(); at++) {
            letter(text.charAt(at));
        }
    }

    int rule(String text) {
        write(text);
        return rule();
    }

    private String nameText(boolean member, int c) {
        int length = name(member, c, -1);
        StringBuilder text = new StringBuilder();
        for (int k = 0; k < length; k++) {
            text.append((char) name(member, c, k));
        }
        return length < 0 ? "none" : text.toString();
    }

    String className(int c) {
        return nameText(false, c);
    }

    String memberText(int m) {
        return nameText(true, m);
    }

    String mappingText() {
        int length = mapping(-1);
        StringBuilder text = new StringBuilder();
        for (int k = 0; k < length; k++) {
            text.append((char) mapping(k));
        }
        return text.toString();
    }

    /** Traces with this DRAFT alone; a rule() that fails empties what was there. */
    int traced(String draft, int text, int shape, boolean method) {
        letter('}');
        rule();
        write(draft);
        return trace(text, shape, method);
    }

    int tracedClass(String draft) {
        return traced(draft, 0, 0, false);
    }

    /** A CLASS's NEEDED, MADE, STARTED as three digits. */
    String state(int c) {
        return "" + needs(c, 0) + needs(c, 1) + needs(c, 2);
    }

    /** All that can be counted, in one text: two that differ show that something changed. */
    String counts() {
        StringBuilder text = new StringBuilder();
        for (int what = 0; what <= 9; what++) {
            text.append(what == 0 ? "" : " ").append(count(what));
        }
        return text.toString();
    }
}
