import java.util.Arrays;

/**
 * A shrinker of whole programs: keep rules are read as text, what is needed is found from what
 * they keep, by references, selection for what is made, and starts; the rest goes; what stays is
 * renamed so that everything that overrides still does, and nothing else; a mapping is told as
 * text, and names are traced back.
 *
 * Sets of CLASSES, MEMBERS and signatures are longs with a bit for each number.
 */
public final class ShrinkForge {
    public static final int REFUSED = -1;
    public static final int NONE = -2;
    public static final int FULL = -3;

    private static final int CLASSES = 10;
    private static final int PACKAGES = 3;
    private static final int MEMBERS = 40;
    private static final int REFERENCES = 60;
    private static final int RULES = 8;
    private static final int DRAFT_ROOM = 60;
    private static final int WORDS = 8;
    private static final int FIELD_WORDS = 6;
    private static final int SHAPES = 2;
    private static final int SIGNATURES = 2 * WORDS * SHAPES;
    private static final int FIRST_METHOD = WORDS * SHAPES;

    private static final int FACE = 1;
    private static final int ABSTRACT = 2;

    private static final int METHOD = 1;
    private static final int STATIC = 2;
    private static final int PRIVATE = 4;

    private static final int KIND_NEW = 0;
    private static final int KIND_FIELD = 2;
    private static final int KIND_VIRTUAL = 5;

    private static final int WORD_INIT = 6;
    private static final int WORD_CLINIT = 7;
    /** The signature of METHOD 0 with SHAPE 0, which the LIBRARY calls. */
    private static final int LIBRARY_CALL = FIRST_METHOD;
    /** The signature of METHOD 7 with SHAPE 0, with which a CLASS starts. */
    private static final int START = FIRST_METHOD + WORD_CLINIT * SHAPES;

    private static final int KEEP = 1;
    private static final int KEEP_NAMES = 2;
    private static final int KEEP_MEMBERS = 3;

    private static final int RULE_FAULT = -10;
    private static final int LONGEST_NAME = 8;

    private final Types types;
    private final Members members;
    private final References references;
    private final Text draft;
    private final RuleReader reader;
    private final RuleBook book;
    private final Needs need;
    private final Names names;
    private final Mapping told;
    private final Text scratch;
    private boolean settled;

    public ShrinkForge() {
        types = new Types();
        members = new Members(types);
        references = new References();
        draft = new Text(DRAFT_ROOM);
        reader = new RuleReader(draft);
        book = new RuleBook();
        need = new Needs(types, members, references, book);
        names = new Names(types, members, book, need);
        told = new Mapping(types, members, need, names);
        scratch = new Text(LONGEST_NAME);
    }

    public boolean type(int c, int pack, int flags, int above, int faces) {
        if (!within(c, 1, CLASSES - 1) || !within(pack, 0, PACKAGES - 1)) {
            return false;
        }
        if (!within(flags, 0, FACE | ABSTRACT) || !within(above, 0, c - 1)) {
            return false;
        }
        if (!within(faces, 0, (1 << CLASSES) - 1)) {
            return false;
        }
        types.declare(c, pack, flags, above, faces);
        settled = false;
        return true;
    }

    public boolean drop(int c) {
        if (c == 0 || !types.isThere(c)) {
            return false;
        }
        types.forget(c);
        members.discardAllOf(c);
        settled = false;
        return true;
    }

    public int member(int c, int word, int shape, int flags) {
        if (c == 0 || !types.isThere(c) || !within(flags, 0, METHOD | STATIC | PRIVATE)) {
            return REFUSED;
        }
        boolean method = (flags & METHOD) != 0;
        if (!within(word, 0, (method ? WORDS : FIELD_WORDS) - 1) || !within(shape, 0, SHAPES - 1)) {
            return REFUSED;
        }
        int signature = signature(method, word, shape);
        if (members.at(c, signature) != NONE) {
            return REFUSED;
        }
        settled = false;
        return members.add(c, signature, flags);
    }

    public boolean remove(int m) {
        if (m == 0 || !members.isAlive(m)) {
            return false;
        }
        members.discard(m);
        settled = false;
        return true;
    }

    public int refer(int m, int kind, int c, int word, int shape) {
        if (m == 0 || !members.isAlive(m) || !members.hasFlag(m, METHOD)) {
            return REFUSED;
        }
        if (!within(kind, 0, KIND_VIRTUAL) || !isWanted(c, word, shape)) {
            return REFUSED;
        }
        settled = false;
        return references.add(m, kind, c, signature(kind != KIND_FIELD, word, shape));
    }

    public int letter(int c) {
        if (!within(c, ' ', '~')) {
            return REFUSED;
        }
        return draft.put(c) ? draft.length : FULL;
    }

    public int rule() {
        int stop = reader.read();
        draft.wipe();
        if (stop != 0) {
            return RULE_FAULT - stop;
        }
        settled = false;
        return book.add(reader);
    }

    public int clear(boolean all) {
        int before = book.total;
        book.total = 0;
        draft.wipe();
        if (all) {
            types.reset();
            members.reset();
            references.total = 0;
        }
        settled = false;
        return before;
    }

    public int needs(int c, int what) {
        if (!within(what, 0, 5)) {
            return REFUSED;
        }
        if (!types.isThere(c)) {
            return NONE;
        }
        settle();
        switch (what) {
            case 0: return asNumber(has(need.classes, c));
            case 1: return asNumber(has(need.made, c));
            case 2: return asNumber(has(need.started, c));
            case 3: return asNumber(has(names.keptClasses, c));
            case 4: return Long.bitCount(types.above[c]);
            default: return book.greatestAbout(c);
        }
    }

    public int part(int m, int what) {
        if (!within(what, 0, 5)) {
            return REFUSED;
        }
        if (!members.isAlive(m)) {
            return NONE;
        }
        settle();
        switch (what) {
            case 0: return asNumber(has(need.members, m));
            case 1: return asNumber(has(names.keptTexts, members.signatures[m]));
            case 2: return members.owners[m];
            case 3: return wordOf(members.signatures[m]);
            case 4: return shapeOf(members.signatures[m]);
            default: return members.flags[m];
        }
    }

    public int found(int kind, int c, int word, int shape, boolean needed) {
        if (!within(kind, KIND_FIELD, KIND_VIRTUAL) || !isWanted(c, word, shape)) {
            return REFUSED;
        }
        settle();
        long among = needed ? need.members : members.alive;
        return members.find(c, signature(kind != KIND_FIELD, word, shape), among);
    }

    public int selected(int d, int word, int shape, boolean needed) {
        if (!isWanted(d, word, shape)) {
            return REFUSED;
        }
        settle();
        long among = needed ? need.members : members.alive;
        return members.find(d, signature(true, word, shape), among & members.selectable);
    }

    public int name(boolean member, int c, int k) {
        settle();
        if (!has(member ? need.members : need.classes, c)) {
            return NONE;
        }
        scratch.wipe();
        if (member) {
            names.tellText(scratch, members.signatures[c]);
        } else {
            names.tellName(scratch, c);
        }
        return scratch.answer(k);
    }

    public int mapping(int k) {
        settle();
        told.write();
        return told.text.answer(k);
    }

    public int trace(int text, int shape, boolean method) {
        if ((text != 0 && !within(text, 'a', 'z')) || !within(shape, 0, SHAPES - 1)) {
            return REFUSED;
        }
        settle();
        int c = classNamedByDraft();
        if (c == NONE || text == 0) {
            return c;
        }
        return memberWithText(c, text, shape, method);
    }

    public int count(int what) {
        if (!within(what, 0, 9)) {
            return REFUSED;
        }
        settle();
        switch (what) {
            case 0: return Long.bitCount(types.there);
            case 1: return Long.bitCount(members.alive);
            case 2: return references.total;
            case 3: return book.total;
            case 4: return Long.bitCount(need.classes);
            case 5: return Long.bitCount(need.made);
            case 6: return Long.bitCount(need.started);
            case 7: return Long.bitCount(need.members);
            case 8: return need.countReferences();
            default: return need.countMisses();
        }
    }

    /** What is NEEDED and the NAMES are worked out when asked for, and stay until a change. */
    private void settle() {
        if (settled) {
            return;
        }
        book.look(types, members);
        need.work();
        names.work();
        told.stale = true;
        settled = true;
    }

    private int classNamedByDraft() {
        for (int c = 0; c < CLASSES; c++) {
            if (has(need.classes, c)) {
                scratch.wipe();
                names.tellName(scratch, c);
                if (scratch.isSame(draft)) {
                    return c;
                }
            }
        }
        return NONE;
    }

    private int memberWithText(int c, int text, int shape, boolean method) {
        for (int word = 0; word < WORDS; word++) {
            int signature = signature(method, word, shape);
            int m = members.at(c, signature);
            if (has(need.members, m)) {
                scratch.wipe();
                names.tellText(scratch, signature);
                if (scratch.answer(0) == text) {
                    return m;
                }
            }
        }
        return NONE;
    }

    private static boolean within(int number, int least, int most) {
        return number >= least && number <= most;
    }

    private static boolean isWanted(int c, int word, int shape) {
        return within(c, 0, CLASSES - 1) && within(word, 0, WORDS - 1) && within(shape, 0, SHAPES - 1);
    }

    private static int asNumber(boolean yes) {
        return yes ? 1 : 0;
    }

    private static long bit(int number) {
        return 1L << number;
    }

    /** False also for numbers that no set can hold, so that callers need no test of their own. */
    private static boolean has(long set, int number) {
        return number >= 0 && number < 64 && (set >>> number & 1L) != 0;
    }

    /** Kind, WORD and SHAPE in one number, as no two MEMBERS of a CLASS share all three. */
    private static int signature(boolean method, int word, int shape) {
        return (method ? FIRST_METHOD : 0) + word * SHAPES + shape;
    }

    private static int wordOf(int signature) {
        return signature / SHAPES % WORDS;
    }

    private static int shapeOf(int signature) {
        return signature % SHAPES;
    }

    private static boolean isMethod(int signature) {
        return signature >= FIRST_METHOD;
    }

    /** A text written from its start into a row that is made once. */
    private static final class Text {
        private final char[] row;
        private int length;

        Text(int room) {
            row = new char[room];
        }

        void wipe() {
            length = 0;
        }

        boolean put(int letter) {
            if (length >= row.length) {
                return false;
            }
            row[length] = (char) letter;
            length++;
            return true;
        }

        void putAll(String letters) {
            for (int at = 0; at < letters.length(); at++) {
                put(letters.charAt(at));
            }
        }

        void putOldName(int pack, int c) {
            put('o' + pack);
            put('.');
            put('A' + c);
        }

        void putOldText(int word) {
            if (word == WORD_INIT) {
                putAll("<init>");
            } else if (word == WORD_CLINIT) {
                putAll("<clinit>");
            } else {
                put('r' + word);
            }
        }

        boolean isSame(Text other) {
            boolean same = length == other.length;
            for (int at = 0; same && at < length; at++) {
                same = row[at] == other.row[at];
            }
            return same;
        }

        /** How many characters there are for -1, else character k. */
        int answer(int k) {
            if (k == -1) {
                return length;
            }
            return within(k, 0, length - 1) ? row[k] : NONE;
        }
    }

    /** The CLASSES, and how those that are THERE stand to one another. */
    private static final class Types {
        private final int[] packs = new int[CLASSES];
        private final int[] flags = new int[CLASSES];
        private final int[] saidSupers = new int[CLASSES];
        private final int[] saidFaces = new int[CLASSES];
        private final int[] supers = new int[CLASSES];
        private final long[] faces = new long[CLASSES];
        private final long[] lines = new long[CLASSES];
        private final long[] above = new long[CLASSES];
        private long there;
        private long allFaces;
        private long makeable;

        Types() {
            reset();
        }

        /** The row of CLASS 0 is never written, so it stays a plain class in PACKAGE 0. */
        void reset() {
            there = bit(0);
            relate();
        }

        void declare(int c, int pack, int flag, int saidSuper, int faceSet) {
            packs[c] = pack;
            flags[c] = flag;
            saidSupers[c] = saidSuper;
            saidFaces[c] = faceSet;
            there |= bit(c);
            relate();
        }

        void forget(int c) {
            there &= ~bit(c);
            relate();
        }

        boolean isThere(int c) {
            return has(there, c);
        }

        boolean isUnder(int d, int c) {
            return d == c || has(above[d], c);
        }

        /** One CLASS coming or going may change what others stand under, so all are done anew. */
        private void relate() {
            allFaces = 0;
            makeable = 0;
            lines[0] = bit(0);
            for (int c = 0; c < CLASSES; c++) {
                if (isThere(c)) {
                    if ((flags[c] & FACE) != 0) {
                        allFaces |= bit(c);
                    }
                    if (flags[c] == 0) {
                        makeable |= bit(c);
                    }
                    if (c > 0) {
                        relateOne(c);
                    }
                }
            }
        }

        /** All that can be ABOVE has a lesser number and is done already. */
        private void relateOne(int c) {
            int said = saidSupers[c];
            boolean counts = isThere(said) && !has(allFaces, said) && !has(allFaces, c);
            supers[c] = counts ? said : 0;
            faces[c] = saidFaces[c] & (bit(c) - 1) & allFaces;
            lines[c] = bit(c) | lines[supers[c]];
            above[c] = bit(supers[c]) | above[supers[c]] | faces[c];
            for (int face = 0; face < c; face++) {
                if (has(faces[c], face)) {
                    above[c] |= above[face];
                }
            }
        }
    }

    /** The MEMBERS, and which of them a WORD and SHAPE lead to. */
    private static final class Members {
        private final Types types;
        private final int[] owners = new int[MEMBERS];
        private final int[] signatures = new int[MEMBERS];
        private final int[] flags = new int[MEMBERS];
        private final int[] table = new int[CLASSES * SIGNATURES];
        private int total;
        private long alive;
        private long selectable;

        Members(Types types) {
            this.types = types;
            reset();
        }

        void reset() {
            Arrays.fill(table, NONE);
            total = 0;
            alive = 0;
            selectable = 0;
            add(0, LIBRARY_CALL, METHOD);
        }

        int add(int c, int signature, int flag) {
            if (total >= MEMBERS) {
                return FULL;
            }
            int m = total;
            total++;
            owners[m] = c;
            signatures[m] = signature;
            flags[m] = flag;
            table[c * SIGNATURES + signature] = m;
            alive |= bit(m);
            if (flag == METHOD) {
                selectable |= bit(m);
            }
            return m;
        }

        void discard(int m) {
            table[owners[m] * SIGNATURES + signatures[m]] = NONE;
            alive &= ~bit(m);
            selectable &= ~bit(m);
        }

        void discardAllOf(int c) {
            for (int m = 1; m < total; m++) {
                if (isAlive(m) && owners[m] == c) {
                    discard(m);
                }
            }
        }

        boolean isAlive(int m) {
            return has(alive, m);
        }

        boolean hasFlag(int m, int flag) {
            return (flags[m] & flag) != 0;
        }

        int at(int c, int signature) {
            return table[c * SIGNATURES + signature];
        }

        /** FOUND, of the MEMBERS given; SELECTED, if just those that can be SELECTED are given. */
        int find(int c, int signature, long among) {
            if (!has(types.there, c)) {
                return NONE;
            }
            // a SUPER has a lesser number, so a LINE goes down by numbers
            for (int up = c; up >= 0; up--) {
                if (has(types.lines[c], up) && has(among, at(up, signature))) {
                    return at(up, signature);
                }
            }
            return leastOfFaces(types.above[c] & types.allFaces, signature, among);
        }

        private int leastOfFaces(long faces, int signature, long among) {
            int least = NONE;
            for (int face = 0; face < CLASSES; face++) {
                if (has(faces, face) && has(among, at(face, signature))) {
                    int m = at(face, signature);
                    least = least == NONE ? m : Math.min(least, m);
                }
            }
            return least;
        }
    }

    /** The REFERENCES; those of a METHOD that is GONE stay and count. */
    private static final class References {
        private final int[] methods = new int[REFERENCES];
        private final int[] kinds = new int[REFERENCES];
        private final int[] targets = new int[REFERENCES];
        private final int[] signatures = new int[REFERENCES];
        private int total;

        int add(int m, int kind, int c, int signature) {
            if (total >= REFERENCES) {
                return FULL;
            }
            methods[total] = m;
            kinds[total] = kind;
            targets[total] = c;
            signatures[total] = signature;
            total++;
            return total;
        }
    }

    /**
     * Reads a DRAFT as a RULE. There are few NAMES and texts, so which of them the PATTERNS FIT is
     * written down as sets at once, and no PATTERN is kept.
     */
    private static final class RuleReader {
        private final int[] starts = new int[DRAFT_ROOM + 2];
        private final int[] ends = new int[DRAFT_ROOM + 2];
        private final Text candidate = new Text(LONGEST_NAME);
        private final Text text;
        private int words;
        private int sort;
        private long nameSet;
        private long aboveSet;
        private long textSet;

        RuleReader(Text draft) {
            text = draft;
        }

        /** 0 if the DRAFT is a RULE, else the number of the WORD at which it stops being one. */
        int read() {
            cut();
            sort = sortOfRule();
            if (sort == 0) {
                return 1;
            }
            if (!reads(2, "class")) {
                return 2;
            }
            if (!isPattern(3, 0)) {
                return 3;
            }
            boolean hasAbove = reads(4, "extends");
            if (hasAbove && !isPattern(5, 0)) {
                return 5;
            }
            nameSet = namesThatFit(3);
            // without extends any NAME will do, as CLASS 0 is ABOVE all that a RULE can be ABOUT
            aboveSet = hasAbove ? namesThatFit(5) : -1L;
            textSet = 0;
            return readBody(hasAbove ? 6 : 4);
        }

        private void cut() {
            words = 0;
            int start = 0;
            for (int at = 0; at <= text.length; at++) {
                if (at == text.length || text.row[at] == ' ') {
                    words++;
                    starts[words] = start;
                    ends[words] = at;
                    start = at + 1;
                }
            }
        }

        private int sortOfRule() {
            if (reads(1, "keep")) {
                return KEEP;
            }
            if (reads(1, "keepnames")) {
                return KEEP_NAMES;
            }
            return reads(1, "keepmembers") ? KEEP_MEMBERS : 0;
        }

        private int readBody(int word) {
            if (word > words) {
                return 0;
            }
            if (!reads(word, "{")) {
                return word;
            }
            int first = word + 1;
            for (int at = first; at <= words; at += 2) {
                if (at > first && reads(at, "}")) {
                    return at < words ? at + 1 : 0;
                }
                if (!reads(at, "f") && !reads(at, "m") && !reads(at, "x")) {
                    return at;
                }
                if (!endsClause(at + 1) || !isPattern(at + 1, 1)) {
                    return at + 1;
                }
                textSet |= textsThatFit(at);
            }
            return words + 1;
        }

        private boolean reads(int word, String wanted) {
            if (word > words || ends[word] - starts[word] != wanted.length()) {
                return false;
            }
            for (int at = 0; at < wanted.length(); at++) {
                if (text.row[starts[word] + at] != wanted.charAt(at)) {
                    return false;
                }
            }
            return true;
        }

        private boolean endsClause(int word) {
            return word <= words && ends[word] > starts[word] && text.row[ends[word] - 1] == ';';
        }

        /** The spare characters at the end of the WORD are not of the PATTERN. */
        private boolean isPattern(int word, int spare) {
            if (word > words || ends[word] - spare <= starts[word]) {
                return false;
            }
            for (int at = starts[word]; at < ends[word] - spare; at++) {
                char letter = text.row[at];
                if (letter == ';' || letter == '{' || letter == '}') {
                    return false;
                }
            }
            return true;
        }

        private long namesThatFit(int word) {
            long set = 0;
            for (int name = 0; name < PACKAGES * CLASSES; name++) {
                candidate.wipe();
                candidate.putOldName(name / CLASSES, name % CLASSES);
                if (fits(starts[word], ends[word])) {
                    set |= bit(name);
                }
            }
            return set;
        }

        /** The signatures that the sort at this WORD and the PATTERN behind it mean. */
        private long textsThatFit(int word) {
            char sortOfText = text.row[starts[word]];
            long set = 0;
            for (int signature = 0; signature < SIGNATURES; signature++) {
                candidate.wipe();
                candidate.putOldText(wordOf(signature));
                boolean sorted = sortOfText == 'x' || (sortOfText == 'm') == isMethod(signature);
                if (sorted && fits(starts[word + 1], ends[word + 1] - 1)) {
                    set |= bit(signature);
                }
            }
            return set;
        }

        /** Whether the PATTERN FITS the candidate: a bit for each length that it may have come to. */
        private boolean fits(int from, int to) {
            int reached = 1;
            for (int at = from; at < to; at++) {
                if (text.row[at] != '*') {
                    reached = afterOne(reached, text.row[at]);
                } else if (at + 1 < to && text.row[at + 1] == '*') {
                    reached = afterMany(reached, true);
                    at++;
                } else {
                    reached = afterMany(reached, false);
                }
            }
            return (reached >> candidate.length & 1) != 0;
        }

        private int afterOne(int reached, char wanted) {
            int next = 0;
            for (int at = 0; at < candidate.length; at++) {
                char letter = candidate.row[at];
                boolean good = wanted == '?' ? letter != '.' : letter == wanted;
                if (good && (reached >> at & 1) != 0) {
                    next |= 2 << at;
                }
            }
            return next;
        }

        private int afterMany(int reached, boolean alsoDots) {
            int next = reached;
            for (int at = 0; at < candidate.length; at++) {
                if ((alsoDots || candidate.row[at] != '.') && (next >> at & 1) != 0) {
                    next |= 2 << at;
                }
            }
            return next;
        }
    }

    /** The RULES, and what they are ABOUT and mean in the program as it is. */
    private static final class RuleBook {
        private final int[] sorts = new int[RULES];
        private final long[] nameSets = new long[RULES];
        private final long[] aboveSets = new long[RULES];
        private final long[] textSets = new long[RULES];
        private final long[] about = new long[RULES];
        private final long[] meant = new long[RULES];
        private int total;

        int add(RuleReader reader) {
            if (total >= RULES) {
                return FULL;
            }
            sorts[total] = reader.sort;
            nameSets[total] = reader.nameSet;
            aboveSets[total] = reader.aboveSet;
            textSets[total] = reader.textSet;
            total++;
            return total;
        }

        void look(Types types, Members members) {
            for (int rule = 0; rule < total; rule++) {
                about[rule] = classesAbout(rule, types);
                meant[rule] = membersMeant(rule, members);
            }
        }

        int greatestAbout(int c) {
            for (int rule = total - 1; rule >= 0; rule--) {
                if (has(about[rule], c)) {
                    return rule;
                }
            }
            return NONE;
        }

        private long classesAbout(int rule, Types types) {
            long upper = classesNamed(aboveSets[rule], types);
            long set = 0;
            for (int c = 1; c < CLASSES; c++) {
                if (types.isThere(c) && (types.above[c] & upper) != 0) {
                    set |= bit(c);
                }
            }
            return set & classesNamed(nameSets[rule], types);
        }

        private static long classesNamed(long nameSet, Types types) {
            long set = 0;
            for (int c = 0; c < CLASSES; c++) {
                if (has(nameSet, types.packs[c] * CLASSES + c)) {
                    set |= bit(c);
                }
            }
            return set;
        }

        private long membersMeant(int rule, Members members) {
            long set = 0;
            for (int m = 1; m < members.total; m++) {
                if (has(about[rule], members.owners[m]) && has(textSets[rule], members.signatures[m])) {
                    set |= bit(m);
                }
            }
            return set & members.alive;
        }
    }

    /** What is NEEDED, MADE and STARTED. */
    private static final class Needs {
        /** Each round but the last adds something, and there is no more than this. */
        private static final int ROUNDS = 3 * CLASSES + MEMBERS + 1;

        private final Types types;
        private final Members all;
        private final References references;
        private final RuleBook book;
        private long classes;
        private long made;
        private long started;
        private long members;

        Needs(Types types, Members all, References references, RuleBook book) {
            this.types = types;
            this.all = all;
            this.references = references;
            this.book = book;
        }

        void work() {
            classes = bit(0);
            members = bit(0);
            made = 0;
            started = 0;
            addKept();
            int known = 0;
            for (int round = 0; round < ROUNDS && known < size(); round++) {
                known = size();
                addByKeepMembers();
                addByMembers();
                addByReferences();
                addSelected(0, LIBRARY_CALL);
                addByClasses();
            }
        }

        int countReferences() {
            int number = 0;
            for (int r = 0; r < references.total; r++) {
                number += asNumber(has(members, references.methods[r]));
            }
            return number;
        }

        /** find has nothing for a CLASS that is not THERE, so just NEW and TYPE ask for that. */
        int countMisses() {
            int number = 0;
            for (int r = 0; r < references.total; r++) {
                if (has(members, references.methods[r])) {
                    boolean hit = references.kinds[r] < KIND_FIELD
                        ? types.isThere(references.targets[r])
                        : all.find(references.targets[r], references.signatures[r], all.alive) != NONE;
                    number += asNumber(!hit);
                }
            }
            return number;
        }

        private int size() {
            return Long.bitCount(classes) + Long.bitCount(made) + Long.bitCount(started)
                + Long.bitCount(members);
        }

        private void addKept() {
            for (int rule = 0; rule < book.total; rule++) {
                if (book.sorts[rule] == KEEP) {
                    classes |= book.about[rule];
                    started |= book.about[rule];
                    made |= book.about[rule] & types.makeable;
                    members |= book.meant[rule];
                }
            }
        }

        private void addByKeepMembers() {
            for (int rule = 0; rule < book.total; rule++) {
                if (book.sorts[rule] == KEEP_MEMBERS) {
                    members |= ofNeededClasses(book.meant[rule]);
                }
            }
        }

        private long ofNeededClasses(long set) {
            long rest = set;
            for (int m = 0; m < all.total; m++) {
                if (!has(classes, all.owners[m])) {
                    rest &= ~bit(m);
                }
            }
            return rest;
        }

        /** From above down by numbers, so that one round takes a whole LINE. */
        private void addByClasses() {
            for (int c = CLASSES - 1; c > 0; c--) {
                if (has(classes, c)) {
                    classes |= bit(types.supers[c]) | types.faces[c];
                }
                if (has(started, c)) {
                    started |= bit(types.supers[c]);
                    int start = all.at(c, START);
                    if (start != NONE && all.hasFlag(start, STATIC)) {
                        members |= bit(start);
                    }
                }
            }
        }

        private void addByMembers() {
            for (int m = 0; m < all.total; m++) {
                if (has(members, m)) {
                    classes |= bit(all.owners[m]);
                }
            }
        }

        private void addByReferences() {
            for (int r = 0; r < references.total; r++) {
                int c = references.targets[r];
                if (has(members, references.methods[r]) && has(types.there, c)) {
                    int kind = references.kinds[r];
                    classes |= bit(c);
                    if (kind == KIND_NEW) {
                        made |= bit(c) & types.makeable;
                        started |= bit(c) & types.makeable;
                    }
                    if (kind >= KIND_FIELD) {
                        addFound(c, references.signatures[r]);
                    }
                    if (kind == KIND_VIRTUAL) {
                        addSelected(c, references.signatures[r]);
                    }
                }
            }
        }

        private void addFound(int c, int signature) {
            int m = all.find(c, signature, all.alive);
            if (m != NONE) {
                members |= bit(m);
                if (all.hasFlag(m, STATIC)) {
                    started |= bit(all.owners[m]);
                }
            }
        }

        /** What is UNDER a CLASS has no lesser number. */
        private void addSelected(int c, int signature) {
            for (int d = c; d < CLASSES; d++) {
                if (has(made, d) && types.isUnder(d, c)) {
                    int m = all.find(d, signature, all.selectable);
                    if (m != NONE) {
                        members |= bit(m);
                    }
                }
            }
        }
    }

    /** Which NAMES and texts are kept, and the new ones of the others. */
    private static final class Names {
        private final Types types;
        private final Members all;
        private final RuleBook book;
        private final Needs need;
        private final char[] newNames = new char[CLASSES];
        private final char[] newTexts = new char[SIGNATURES];
        private long keptClasses;
        private long keptTexts;

        Names(Types types, Members all, RuleBook book, Needs need) {
            this.types = types;
            this.all = all;
            this.book = book;
            this.need = need;
        }

        void work() {
            keepWhatTheLibraryKnows();
            for (int rule = 0; rule < book.total; rule++) {
                long meant = book.meant[rule];
                if (book.sorts[rule] == KEEP_MEMBERS) {
                    meant = need.ofNeededClasses(meant);
                } else {
                    keptClasses |= book.about[rule];
                }
                keptTexts |= signaturesOf(meant);
            }
            giveNames();
            giveTexts();
        }

        void tellName(Text into, int c) {
            if (has(keptClasses, c)) {
                into.putOldName(types.packs[c], c);
            } else {
                into.put(newNames[c]);
            }
        }

        void tellText(Text into, int signature) {
            if (has(keptTexts, signature)) {
                into.putOldText(wordOf(signature));
            } else {
                into.put(newTexts[signature]);
            }
        }

        private void keepWhatTheLibraryKnows() {
            keptClasses = bit(0);
            keptTexts = bit(LIBRARY_CALL);
            for (int shape = 0; shape < SHAPES; shape++) {
                keptTexts |= bit(signature(true, WORD_INIT, shape));
                keptTexts |= bit(signature(true, WORD_CLINIT, shape));
            }
        }

        private long signaturesOf(long set) {
            long signatures = 0;
            for (int m = 0; m < all.total; m++) {
                if (has(set, m)) {
                    signatures |= bit(all.signatures[m]);
                }
            }
            return signatures;
        }

        private void giveNames() {
            int next = 'a';
            for (int c = 0; c < CLASSES; c++) {
                if (has(need.classes & ~keptClasses, c)) {
                    newNames[c] = (char) next;
                    next++;
                }
            }
        }

        private void giveTexts() {
            long wanting = signaturesOf(need.members) & ~keptTexts;
            for (int shape = 0; shape < SHAPES; shape++) {
                giveTextsOf(wanting, false, shape);
                giveTextsOf(wanting, true, shape);
            }
        }

        /** Six WORDS at most want a letter: a to f, which are never the text r to w of a kept one. */
        private void giveTextsOf(long wanting, boolean method, int shape) {
            int next = 'a';
            for (int word = 0; word < FIELD_WORDS; word++) {
                int signature = signature(method, word, shape);
                if (has(wanting, signature)) {
                    newTexts[signature] = (char) next;
                    next++;
                }
            }
        }
    }

    /** THE MAPPING, written when it is asked for the first time after a change. */
    private static final class Mapping {
        private static final int CLASS_ROW = 12;
        private static final int MEMBER_ROW = 9 + 2 * LONGEST_NAME;

        private final Types types;
        private final Members all;
        private final Needs need;
        private final Names names;
        private final Text text = new Text(CLASSES * CLASS_ROW + MEMBERS * MEMBER_ROW);
        private boolean stale;

        Mapping(Types types, Members all, Needs need, Names names) {
            this.types = types;
            this.all = all;
            this.need = need;
            this.names = names;
        }

        void write() {
            if (!stale) {
                return;
            }
            stale = false;
            text.wipe();
            for (int c = 1; c < CLASSES; c++) {
                if (has(need.classes, c)) {
                    writeClass(c);
                }
            }
        }

        private void writeClass(int c) {
            text.putOldName(types.packs[c], c);
            text.putAll(" -> ");
            names.tellName(text, c);
            text.putAll(":\n");
            for (int m = 1; m < all.total; m++) {
                if (all.owners[m] == c && has(need.members, m)) {
                    writeMember(all.signatures[m]);
                }
            }
        }

        private void writeMember(int signature) {
            text.put(' ');
            text.putOldText(wordOf(signature));
            if (isMethod(signature)) {
                text.put('(');
                text.put('0' + shapeOf(signature));
                text.put(')');
            }
            text.putAll(" -> ");
            names.tellText(text, signature);
            text.put('\n');
        }
    }
}
