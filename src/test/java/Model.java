import java.util.ArrayList;
import java.util.HashSet;
import java.util.List;
import java.util.Set;
import java.util.TreeMap;
import java.util.TreeSet;
import java.util.regex.Pattern;

/** The document told a second time with the Java library, slowly and without shared parts. */
final class Model {
    static final int REFUSED = -1;
    static final int NONE = -2;
    static final int FULL = -3;

    record Type(int pack, int flags, int above, int faces) {
        boolean face() {
            return (flags & 1) != 0;
        }
    }

    static final class Member {
        int c;
        int word;
        int shape;
        int flags;
        boolean gone;

        boolean method() {
            return (flags & 1) != 0;
        }

        String key() {
            return (method() ? "m" : "f") + word + shape;
        }

        String text() {
            return word == 6 ? "<init>" : word == 7 ? "<clinit>" : "rstuvw".substring(word, word + 1);
        }
    }

    record Reference(int m, int kind, int c, int word, int shape) { }

    record Rule(String sort, String name, String above, List<String> clauses) { }

    final TreeMap<Integer, Type> types = new TreeMap<>();
    final List<Member> members = new ArrayList<>();
    final List<Reference> references = new ArrayList<>();
    final List<Rule> rules = new ArrayList<>();
    String draft = "";

    Model() {
        empty();
    }

    private void empty() {
        types.clear();
        members.clear();
        references.clear();
        types.put(0, new Type(0, 0, 0, 0));
        put(0, 0, 0, 1);
    }

    private void put(int c, int word, int shape, int flags) {
        Member m = new Member();
        m.c = c;
        m.word = word;
        m.shape = shape;
        m.flags = flags;
        members.add(m);
    }

    private static boolean in(int number, int least, int most) {
        return least <= number && number <= most;
    }

    private Member live(int m) {
        return in(m, 0, members.size() - 1) && !members.get(m).gone ? members.get(m) : null;
    }

    // ---- changes

    boolean type(int c, int pack, int flags, int above, int faces) {
        if (!in(c, 1, 9) || !in(pack, 0, 2) || !in(flags, 0, 3) || !in(above, 0, c - 1) || !in(faces, 0, 1023)) {
            return false;
        }
        types.put(c, new Type(pack, flags, above, faces));
        return true;
    }

    boolean drop(int c) {
        if (c == 0 || types.remove(c) == null) {
            return false;
        }
        members.stream().filter(m -> m.c == c).forEach(m -> m.gone = true);
        return true;
    }

    int member(int c, int word, int shape, int flags) {
        if (!in(c, 1, 9) || !in(flags, 0, 7) || !in(word, 0, flags % 2 == 1 ? 7 : 5) || !in(shape, 0, 1)) {
            return REFUSED;
        }
        boolean twin = members.stream().anyMatch(m -> !m.gone && m.c == c && m.word == word
            && m.shape == shape && m.method() == (flags % 2 == 1));
        if (!types.containsKey(c) || twin) {
            return REFUSED;
        }
        if (members.size() == 40) {
            return FULL;
        }
        put(c, word, shape, flags);
        return members.size() - 1;
    }

    boolean remove(int m) {
        if (m == 0 || live(m) == null) {
            return false;
        }
        live(m).gone = true;
        return true;
    }

    int refer(int m, int kind, int c, int word, int shape) {
        if (m == 0 || live(m) == null || !live(m).method() || !in(kind, 0, 5) || !in(c, 0, 9)
            || !in(word, 0, 7) || !in(shape, 0, 1)) {
            return REFUSED;
        }
        if (references.size() == 60) {
            return FULL;
        }
        references.add(new Reference(m, kind, c, word, shape));
        return references.size();
    }

    int letter(int c) {
        if (!in(c, 32, 126)) {
            return REFUSED;
        }
        if (draft.length() == 60) {
            return FULL;
        }
        draft += (char) c;
        return draft.length();
    }

    int rule() {
        String[] words = draft.split(" ", -1);
        draft = "";
        int state = 0;
        for (int at = 0; at < words.length; at++) {
            state = next(state, words[at]);
            if (state < 0) {
                return -11 - at;
            }
        }
        if (state != 3 && state != 5 && state != 9) {
            return -11 - words.length;
        }
        if (rules.size() == 8) {
            return FULL;
        }
        boolean hasAbove = words.length > 3 && words[3].equals("extends");
        List<String> clauses = new ArrayList<>();
        for (int at = hasAbove ? 6 : 4; at + 1 < words.length; at += 2) {
            clauses.add(words[at] + words[at + 1].substring(0, words[at + 1].length() - 1));
        }
        rules.add(new Rule(words[0], words[2], hasAbove ? words[4] : null, clauses));
        return rules.size();
    }

    /** The grammar as a machine: 3, 5 and 9 may be the end. */
    private static int next(int state, String word) {
        boolean pattern = word.matches("[^ ;{}]+");
        return switch (state) {
            case 0 -> word.matches("keep(names|members)?") ? 1 : -1;
            case 1 -> word.equals("class") ? 2 : -1;
            case 2 -> pattern ? 3 : -1;
            case 3 -> word.equals("extends") ? 4 : word.equals("{") ? 6 : -1;
            case 4 -> pattern ? 5 : -1;
            case 5 -> word.equals("{") ? 6 : -1;
            case 6 -> word.matches("[fmx]") ? 7 : -1;
            case 7 -> word.matches("[^ ;{}]+;") ? 8 : -1;
            case 8 -> word.equals("}") ? 9 : word.matches("[fmx]") ? 7 : -1;
            default -> -1;
        };
    }

    int clear(boolean all) {
        int before = rules.size();
        rules.clear();
        draft = "";
        if (all) {
            empty();
        }
        return before;
    }

    // ---- how classes stand

    int superOf(int c) {
        Type type = types.get(c);
        Type above = types.get(type.above());
        return type.face() || above == null || above.face() ? 0 : type.above();
    }

    List<Integer> line(int c) {
        List<Integer> line = new ArrayList<>();
        line.add(c);
        while (line.get(line.size() - 1) != 0) {
            line.add(superOf(line.get(line.size() - 1)));
        }
        return line;
    }

    List<Integer> faces(int c) {
        List<Integer> faces = new ArrayList<>();
        for (int f = 0; f < c; f++) {
            if ((types.get(c).faces() >> f) % 2 == 1 && types.containsKey(f) && types.get(f).face()) {
                faces.add(f);
            }
        }
        return faces;
    }

    Set<Integer> above(int c) {
        Set<Integer> above = new TreeSet<>();
        for (int up : line(c)) {
            addFaces(up, above);
        }
        above.addAll(line(c));
        above.remove(c);
        return above;
    }

    private void addFaces(int c, Set<Integer> above) {
        for (int face : faces(c)) {
            above.add(face);
            addFaces(face, above);
        }
    }

    String oldName(int c) {
        return "opq".charAt(types.get(c).pack()) + "." + "ABCDEFGHIJ".charAt(c);
    }

    // ---- rules

    static boolean fits(String pattern, String text) {
        StringBuilder regex = new StringBuilder();
        for (int at = 0; at < pattern.length(); at++) {
            if (pattern.startsWith("**", at)) {
                regex.append(".*");
                at++;
            } else if (pattern.charAt(at) == '*') {
                regex.append("[^.]*");
            } else if (pattern.charAt(at) == '?') {
                regex.append("[^.]");
            } else {
                regex.append(Pattern.quote(pattern.substring(at, at + 1)));
            }
        }
        return text.matches(regex.toString());
    }

    boolean about(Rule rule, int c) {
        if (c == 0 || !types.containsKey(c) || !fits(rule.name(), oldName(c))) {
            return false;
        }
        return rule.above() == null || above(c).stream().anyMatch(up -> fits(rule.above(), oldName(up)));
    }

    boolean meant(Rule rule, Member m) {
        if (m.gone || !about(rule, m.c)) {
            return false;
        }
        for (String clause : rule.clauses()) {
            boolean sort = clause.charAt(0) == 'x' || clause.charAt(0) == (m.method() ? 'm' : 'f');
            if (sort && fits(clause.substring(1), m.text())) {
                return true;
            }
        }
        return false;
    }

    // ---- needs, as facts: class 3, made 3, started 3, member 3

    Set<String> facts() {
        Set<String> facts = new HashSet<>(List.of("class 0", "member 0"));
        int before = 0;
        while (before != facts.size()) {
            before = facts.size();
            addFacts(facts);
        }
        return facts;
    }

    private void addFacts(Set<String> facts) {
        for (Rule rule : rules) {
            if (rule.sort().equals("keep")) {
                types.keySet().stream().filter(c -> about(rule, c)).forEach(c -> keep(c, facts));
            }
            for (int m = 0; m < members.size(); m++) {
                boolean held = rule.sort().equals("keep")
                    || rule.sort().equals("keepmembers") && facts.contains("class " + members.get(m).c);
                if (held && meant(rule, members.get(m))) {
                    facts.add("member " + m);
                }
            }
        }
        for (int c : types.keySet()) {
            addFactsOfClass(c, facts);
        }
        for (int m = 0; m < members.size(); m++) {
            if (facts.contains("member " + m)) {
                facts.add("class " + members.get(m).c);
            }
        }
        for (Reference r : references) {
            if (facts.contains("member " + r.m()) && types.containsKey(r.c())) {
                addFactsOfReference(r, facts);
            }
        }
    }

    private void keep(int c, Set<String> facts) {
        facts.add("class " + c);
        facts.add("started " + c);
        if (types.get(c).flags() == 0) {
            facts.add("made " + c);
        }
    }

    private void addFactsOfClass(int c, Set<String> facts) {
        if (facts.contains("class " + c) && c != 0) {
            facts.add("class " + superOf(c));
            faces(c).forEach(f -> facts.add("class " + f));
        }
        if (facts.contains("started " + c) && c != 0) {
            facts.add("started " + superOf(c));
            for (int m = 0; m < members.size(); m++) {
                Member it = members.get(m);
                if (!it.gone && it.c == c && it.key().equals("m70") && (it.flags & 2) != 0) {
                    facts.add("member " + m);
                }
            }
        }
        if (facts.contains("made " + c)) {
            note(selected(c, 0, 0, null), facts);
        }
    }

    private void addFactsOfReference(Reference r, Set<String> facts) {
        facts.add("class " + r.c());
        if (r.kind() == 0 && types.get(r.c()).flags() == 0) {
            facts.add("made " + r.c());
            facts.add("started " + r.c());
        }
        if (r.kind() >= 2) {
            int m = found(r.kind() == 2, r.c(), r.word(), r.shape(), null);
            note(m, facts);
            if (m >= 0 && (members.get(m).flags & 2) != 0) {
                facts.add("started " + members.get(m).c);
            }
        }
        if (r.kind() == 5) {
            for (int d : types.keySet()) {
                if (facts.contains("made " + d) && (d == r.c() || above(d).contains(r.c()))) {
                    note(selected(d, r.word(), r.shape(), null), facts);
                }
            }
        }
    }

    private static void note(int m, Set<String> facts) {
        if (m >= 0) {
            facts.add("member " + m);
        }
    }

    int found(boolean field, int c, int word, int shape, Set<String> facts) {
        return search(c, (field ? "f" : "m") + word + shape, 0, facts);
    }

    int selected(int d, int word, int shape, Set<String> facts) {
        return search(d, "m" + word + shape, 6, facts);
    }

    private int search(int c, String key, int barred, Set<String> facts) {
        List<Integer> good = new ArrayList<>();
        for (int m = 0; m < members.size(); m++) {
            Member it = members.get(m);
            if (!it.gone && it.key().equals(key) && (it.flags & barred) == 0
                && (facts == null || facts.contains("member " + m))) {
                good.add(m);
            }
        }
        for (int up : line(c)) {
            for (int m : good) {
                if (members.get(m).c == up) {
                    return m;
                }
            }
        }
        Set<Integer> above = above(c);
        for (int m : good) {
            if (above.contains(members.get(m).c) && types.get(members.get(m).c).face()) {
                return m;
            }
        }
        return NONE;
    }

    // ---- names

    boolean keepsName(int c) {
        return c == 0 || rules.stream().anyMatch(r -> !r.sort().equals("keepmembers") && about(r, c));
    }

    boolean keepsText(String key, Set<String> facts) {
        if (key.startsWith("m6") || key.startsWith("m7") || key.equals("m00")) {
            return true;
        }
        return members.stream().anyMatch(m -> m.key().equals(key) && rules.stream().anyMatch(r -> meant(r, m)
            && (!r.sort().equals("keepmembers") || facts.contains("class " + m.c))));
    }

    String newName(int c, Set<String> facts) {
        if (keepsName(c)) {
            return oldName(c);
        }
        int letter = 'a';
        for (int other = 0; other < c; other++) {
            if (facts.contains("class " + other) && !keepsName(other)) {
                letter++;
            }
        }
        return "" + (char) letter;
    }

    String newText(Member m, Set<String> facts) {
        if (keepsText(m.key(), facts)) {
            return m.text();
        }
        Set<String> barred = new HashSet<>();
        Set<Integer> before = new TreeSet<>();
        for (int word = 0; word < 6; word++) {
            String key = m.key().substring(0, 1) + word + m.shape;
            if (keepsText(key, facts)) {
                barred.add("rstuvw".substring(word, word + 1));
            }
        }
        for (int n = 0; n < members.size(); n++) {
            Member other = members.get(n);
            if (facts.contains("member " + n) && other.method() == m.method() && other.shape == m.shape
                && other.word < m.word && !keepsText(other.key(), facts)) {
                before.add(other.word);
            }
        }
        int left = before.size();
        for (char letter = 'a'; letter <= 'z'; letter++) {
            if (!barred.contains("" + letter) && left-- == 0) {
                return "" + letter;
            }
        }
        throw new IllegalStateException("no letter left");
    }

    String mappingText(Set<String> facts) {
        StringBuilder text = new StringBuilder();
        for (int c : types.keySet()) {
            if (c != 0 && facts.contains("class " + c)) {
                text.append(oldName(c)).append(" -> ").append(newName(c, facts)).append(":\n");
                for (int m = 0; m < members.size(); m++) {
                    Member it = members.get(m);
                    if (it.c == c && facts.contains("member " + m)) {
                        text.append(" ").append(it.text()).append(it.method() ? "(" + it.shape + ")" : "")
                            .append(" -> ").append(newText(it, facts)).append("\n");
                    }
                }
            }
        }
        return text.toString();
    }

    private static int character(String text, int k) {
        return k == -1 ? text.length() : in(k, 0, text.length() - 1) ? text.charAt(k) : NONE;
    }

    private static int one(boolean yes) {
        return yes ? 1 : 0;
    }

    // ---- questions

    int needs(int c, int what) {
        if (!in(what, 0, 5)) {
            return REFUSED;
        }
        if (!types.containsKey(c)) {
            return NONE;
        }
        if (what == 5) {
            int greatest = NONE;
            for (int r = 0; r < rules.size(); r++) {
                greatest = about(rules.get(r), c) ? r : greatest;
            }
            return greatest;
        }
        return switch (what) {
            case 0 -> one(facts().contains("class " + c));
            case 1 -> one(facts().contains("made " + c));
            case 2 -> one(facts().contains("started " + c));
            case 3 -> one(keepsName(c));
            default -> above(c).size();
        };
    }

    int part(int m, int what) {
        if (!in(what, 0, 5)) {
            return REFUSED;
        }
        if (live(m) == null) {
            return NONE;
        }
        Member it = live(m);
        return switch (what) {
            case 0 -> one(facts().contains("member " + m));
            case 1 -> one(keepsText(it.key(), facts()));
            case 2 -> it.c;
            case 3 -> it.word;
            case 4 -> it.shape;
            default -> it.flags;
        };
    }

    int found(int kind, int c, int word, int shape, boolean needed) {
        if (!in(kind, 2, 5) || !in(c, 0, 9) || !in(word, 0, 7) || !in(shape, 0, 1)) {
            return REFUSED;
        }
        return types.containsKey(c) ? found(kind == 2, c, word, shape, needed ? facts() : null) : NONE;
    }

    int selected(int d, int word, int shape, boolean needed) {
        if (!in(d, 0, 9) || !in(word, 0, 7) || !in(shape, 0, 1)) {
            return REFUSED;
        }
        return types.containsKey(d) ? selected(d, word, shape, needed ? facts() : null) : NONE;
    }

    int name(boolean member, int c, int k) {
        Set<String> facts = facts();
        if (!facts.contains((member ? "member " : "class ") + c)) {
            return NONE;
        }
        return character(member ? newText(members.get(c), facts) : newName(c, facts), k);
    }

    int mapping(int k) {
        return character(mappingText(facts()), k);
    }

    int trace(int text, int shape, boolean method) {
        if (text != 0 && !in(text, 'a', 'z') || !in(shape, 0, 1)) {
            return REFUSED;
        }
        Set<String> facts = facts();
        for (int c : types.keySet()) {
            if (facts.contains("class " + c) && newName(c, facts).equals(draft)) {
                return text == 0 ? c : traceMember(c, text, shape, method, facts);
            }
        }
        return NONE;
    }

    private int traceMember(int c, int text, int shape, boolean method, Set<String> facts) {
        for (int m = 0; m < members.size(); m++) {
            Member it = members.get(m);
            if (facts.contains("member " + m) && it.c == c && it.shape == shape && it.method() == method
                && newText(it, facts).charAt(0) == text) {
                return m;
            }
        }
        return NONE;
    }

    int count(int what) {
        Set<String> facts = facts();
        return switch (what) {
            case 0 -> types.size();
            case 1 -> (int) members.stream().filter(m -> !m.gone).count();
            case 2 -> references.size();
            case 3 -> rules.size();
            case 4 -> (int) facts.stream().filter(f -> f.startsWith("class ")).count();
            case 5 -> (int) facts.stream().filter(f -> f.startsWith("made ")).count();
            case 6 -> (int) facts.stream().filter(f -> f.startsWith("started ")).count();
            case 7 -> (int) facts.stream().filter(f -> f.startsWith("member ")).count();
            case 8 -> (int) references.stream().filter(r -> facts.contains("member " + r.m())).count();
            case 9 -> (int) references.stream().filter(r -> facts.contains("member " + r.m()) && misses(r)).count();
            default -> REFUSED;
        };
    }

    private boolean misses(Reference r) {
        return !types.containsKey(r.c())
            || r.kind() >= 2 && found(r.kind() == 2, r.c(), r.word(), r.shape(), null) == NONE;
    }
}
