/** A ShrinkForge with the calls that tests make together: whole texts in place of letters. */
final class Forge {
    static final int FACE = 1;
    static final int ABSTRACT = 2;
    static final int METHOD = 1;
    static final int STATIC = 2;
    static final int PRIVATE = 4;
    static final int NEW = 0;
    static final int TYPE = 1;
    static final int FIELD = 2;
    static final int STATICALLY = 3;
    static final int SPECIAL = 4;
    static final int VIRTUAL = 5;

    final ShrinkForge x = new ShrinkForge();

    Forge type(int c, int pack, int flags, int above, int... faces) {
        int set = 0;
        for (int face : faces) {
            set |= 1 << face;
        }
        if (!x.type(c, pack, flags, above, set)) {
            throw new IllegalStateException("type " + c);
        }
        return this;
    }

    int member(int c, int word, int shape, int flags) {
        int m = x.member(c, word, shape, flags);
        if (m < 0) {
            throw new IllegalStateException("member of " + c + ": " + m);
        }
        return m;
    }

    int method(int c, int word) {
        return member(c, word, 0, METHOD);
    }

    int field(int c, int word) {
        return member(c, word, 0, 0);
    }

    Forge refer(int m, int kind, int c, int word) {
        if (x.refer(m, kind, c, word, 0) < 0) {
            throw new IllegalStateException("refer of " + m);
        }
        return this;
    }

    void draft(String text) {
        for (int at = 0; at < text.length(); at++) {
            x.letter(text.charAt(at));
        }
    }

    int rule(String text) {
        draft(text);
        return x.rule();
    }

    String name(boolean member, int c) {
        StringBuilder text = new StringBuilder();
        int length = x.name(member, c, -1);
        for (int k = 0; k < length; k++) {
            text.append((char) x.name(member, c, k));
        }
        return length < 0 ? "none" : text.toString();
    }

    String className(int c) {
        return name(false, c);
    }

    String memberText(int m) {
        return name(true, m);
    }

    String mapping() {
        StringBuilder text = new StringBuilder();
        int length = x.mapping(-1);
        for (int k = 0; k < length; k++) {
            text.append((char) x.mapping(k));
        }
        return text.toString();
    }

    /** Traces with this DRAFT; a rule() that fails empties what was there. */
    int trace(String draft, int text, int shape, boolean method) {
        x.letter('}');
        x.rule();
        draft(draft);
        return x.trace(text, shape, method);
    }

    /** A CLASS's NEEDED, MADE, STARTED as three digits. */
    String state(int c) {
        return "" + x.needs(c, 0) + x.needs(c, 1) + x.needs(c, 2);
    }
}
