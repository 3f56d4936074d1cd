import java.util.Random;

/** Runs of calls from fixed seeds, each answer held against the model's. */
public final class ModelTest {
    private static final int RUNS = 1500;
    /** So far below 512 that the last thing done, a rule with all its letters, ends below it too. */
    private static final int CALLS = 440;
    /** Two more than there is room for. */
    private static final int LONGEST_DRAFT = 62;
    private static final String[] NAMES = {
        "**", "*", "o.*", "p.*", "q.*", "?.?", "*.B", "o.A", "p.C", "**D", "o**", "***", "*.*", "?.[", "a", "**.", ".", "?*?", "*.E", "q.?"
    };
    private static final String[] TEXTS = {
        "*", "r", "s", "t", "u", "v", "w", "?", "<*>", "<init>", "<clinit>", "**", "<*init>", "??", "*t*", "a"
    };

    private final Random random;
    private final Check check;
    private final ShrinkForge x = new ShrinkForge();
    private final Model model = new Model();
    private int calls = 0;

    private ModelTest(int seed, Check check) {
        this.random = new Random(seed);
        this.check = check;
    }

    public static void main(String[] args) {
        Check check = new Check();
        for (int seed = 1; seed <= RUNS && check.wrong() == 0; seed++) {
            new ModelTest(seed, check).run(seed);
        }
        check.end("ModelTest");
    }

    private void run(int seed) {
        int types = random.nextInt(10);
        for (int n = 0; n < types; n++) {
            type();
        }
        for (int n = random.nextInt(60); n > 0; n--) {
            member();
        }
        for (int n = random.nextInt(80); n > 0; n--) {
            refer();
        }
        for (int n = random.nextInt(7); n > 0; n--) {
            rule();
        }
        while (calls < CALLS && check.wrong() == 0) {
            if (random.nextInt(100) < 12) {
                change();
            } else {
                ask();
            }
        }
        if (check.wrong() != 0) {
            System.out.println("in the run of seed " + seed);
        }
    }

    /** Mostly a number that is as said, now and then one just outside, or far off. */
    private int number(int least, int most) {
        int way = random.nextInt(60);
        if (way == 0) {
            return least - 1;
        }
        if (way == 1) {
            return most + 1;
        }
        if (way == 2) {
            return random.nextInt();
        }
        return least + random.nextInt(most - least + 1);
    }

    private void due(String call, long got, long want, int... arguments) {
        calls++;
        if (got != want) {
            check.due(call + java.util.Arrays.toString(arguments), got, want);
            System.out.println(model.rules + " " + model.types + " draft " + model.draft);
        } else {
            check.due(call, got, want);
        }
    }

    private static long one(boolean yes) {
        return yes ? 1L : 0L;
    }

    private void change() {
        switch (random.nextInt(9)) {
            case 0, 1 -> type();
            case 2 -> drop();
            case 3, 4 -> member();
            case 5 -> remove();
            case 6 -> refer();
            case 7 -> rule();
            default -> clear();
        }
    }

    private void type() {
        int c = number(1, 9);
        int pack = number(0, 2);
        int flags = random.nextInt(3) == 0 ? number(0, 3) : random.nextInt(3) == 0 ? 1 : 0;
        int above = c >= 1 && c <= 9 ? number(0, c - 1) : number(0, 8);
        int faces = random.nextInt(3) == 0 ? 0 : number(0, 1023);
        due("type", one(x.type(c, pack, flags, above, faces)), one(model.type(c, pack, flags, above, faces)),
            c, pack, flags, above, faces);
    }

    private void drop() {
        int c = number(0, 9);
        due("drop", one(x.drop(c)), one(model.drop(c)), c);
    }

    private int there() {
        Integer[] all = model.types.keySet().toArray(new Integer[0]);
        return random.nextInt(20) == 0 ? number(0, 9) : all[random.nextInt(all.length)];
    }

    private void member() {
        int c = there();
        int flags = random.nextInt(2) == 0 ? number(0, 7) : 1;
        int word = random.nextInt(8) == 0 ? 7 : number(0, 7);
        int shape = random.nextInt(4) == 0 ? number(0, 1) : 0;
        due("member", x.member(c, word, shape, flags), model.member(c, word, shape, flags), c, word, shape, flags);
    }

    private void remove() {
        int m = number(0, model.members.size() - 1);
        due("remove", one(x.remove(m)), one(model.remove(m)), m);
    }

    private void refer() {
        int m = number(0, model.members.size() - 1);
        int kind = number(0, 5);
        int c = there();
        int word = number(0, 7);
        int shape = random.nextInt(4) == 0 ? number(0, 1) : 0;
        due("refer", x.refer(m, kind, c, word, shape), model.refer(m, kind, c, word, shape), m, kind, c, word, shape);
    }

    private void clear() {
        if (random.nextInt(4) == 0) {
            boolean all = random.nextInt(3) == 0;
            due("clear", x.clear(all), model.clear(all));
        }
    }

    private String any(String... choices) {
        return choices[random.nextInt(choices.length)];
    }

    private String ruleText() {
        StringBuilder text = new StringBuilder(any("keep", "keep", "keepnames", "keepmembers"));
        text.append(" class ").append(any(NAMES));
        if (random.nextInt(3) == 0) {
            text.append(" extends ").append(any(NAMES));
        }
        if (random.nextInt(3) != 0) {
            text.append(" {");
            do {
                text.append(' ').append(any("f", "m", "x")).append(' ').append(any(TEXTS)).append(';');
            } while (random.nextInt(3) == 0);
            text.append(" }");
        }
        for (int n = random.nextInt(8) - 5; n > 0; n--) {
            int at = random.nextInt(text.length() + 1);
            if (at < text.length() && random.nextBoolean()) {
                text.deleteCharAt(at);
            } else {
                text.insert(at, any(" ", ";", "{", "}", "*", "x", " x", " }"));
            }
        }
        return text.substring(0, Math.min(text.length(), LONGEST_DRAFT));
    }

    private void letters(String text) {
        for (int at = 0; at < text.length(); at++) {
            due("letter", x.letter(text.charAt(at)), model.letter(text.charAt(at)), text.charAt(at));
        }
    }

    private void rule() {
        if (random.nextInt(10) > 0) {
            emptyDraft();
        }
        letters(ruleText());
        due("rule", x.rule(), model.rule());
    }

    private void emptyDraft() {
        if (!model.draft.isEmpty()) {
            due("letter", x.letter('}'), model.letter('}'), '}');
            due("rule", x.rule(), model.rule());
        }
    }

    private void ask() {
        switch (random.nextInt(11)) {
            case 0, 1 -> askClass();
            case 2, 3 -> askMember();
            case 4 -> askFound();
            case 5 -> askSelected();
            case 6, 7 -> askName();
            case 8 -> askMapping();
            case 9 -> askTrace();
            default -> askCount();
        }
    }

    private void askClass() {
        int c = number(0, 9);
        int what = number(0, 5);
        due("needs", x.needs(c, what), model.needs(c, what), c, what);
    }

    private void askMember() {
        int m = number(0, model.members.size() - 1);
        int what = number(0, 5);
        due("part", x.part(m, what), model.part(m, what), m, what);
    }

    private void askFound() {
        int kind = number(2, 5);
        int c = there();
        int word = number(0, 7);
        int shape = random.nextInt(4) == 0 ? number(0, 1) : 0;
        boolean needed = random.nextBoolean();
        due("found", x.found(kind, c, word, shape, needed), model.found(kind, c, word, shape, needed),
            kind, c, word, shape, needed ? 1 : 0);
    }

    private void askSelected() {
        int d = there();
        int word = number(0, 7);
        int shape = random.nextInt(4) == 0 ? number(0, 1) : 0;
        boolean needed = random.nextBoolean();
        due("selected", x.selected(d, word, shape, needed), model.selected(d, word, shape, needed),
            d, word, shape, needed ? 1 : 0);
    }

    private void askName() {
        boolean member = random.nextBoolean();
        int c = number(0, member ? model.members.size() - 1 : 9);
        int k = number(-1, 3);
        due("name", x.name(member, c, k), model.name(member, c, k), member ? 1 : 0, c, k);
    }

    private void askMapping() {
        int k = number(-1, Math.max(0, model.mapping(-1) - 1));
        due("mapping", x.mapping(k), model.mapping(k), k);
    }

    private void askTrace() {
        emptyDraft();
        letters(any("a", "b", "c", "d", "o.A", "o.B", "p.C", "q.D", "", "ab", "e", "p.E", "q.J"));
        for (int n = 0; n < 4; n++) {
            int text = random.nextInt(4) == 0 ? number(0, 0) : random.nextBoolean() ? number('a', 'e') : number('r', 'z');
            int shape = random.nextInt(4) == 0 ? number(0, 1) : 0;
            boolean method = random.nextBoolean();
            due("trace", x.trace(text, shape, method), model.trace(text, shape, method), text, shape, method ? 1 : 0);
        }
    }

    private void askCount() {
        int what = number(0, 9);
        due("count", x.count(what), model.count(what), what);
    }
}
