import java.io.IOException;
import java.nio.file.Files;
import java.nio.file.Path;
import java.util.List;

/** The example in README.md answers what README.md says, call by call. */
public final class ReadmeTest {
    private static final Check CHECK = new Check();
    private static final ShrinkForge FORGE = new ShrinkForge();

    public static void main(String[] args) throws IOException {
        List<String> lines = Files.readAllLines(Path.of("README.md"));
        int told = 0;
        for (String line : lines) {
            if (line.startsWith("forge.")) {
                check(line);
                told++;
            } else if (line.startsWith("String text = \"")) {
                write(line.split("\"")[1]);
            }
        }
        CHECK.due("calls in the example", told, 13);
        CHECK.due("the mapping stands in README.md", String.join("\n", lines).contains("\n" + mapping()), true);
        CHECK.end("ReadmeTest");
    }

    /** A line reads: forge.call(numbers);  // answer: words. */
    private static void check(String line) {
        String[] halves = line.split("//");
        String call = halves[0].trim();
        CHECK.due(call, answer(call), halves[1].split(":")[0].trim());
    }

    private static String answer(String call) {
        switch (call) {
            case "forge.type(1, 1, 0, 0, 0);": return "" + FORGE.type(1, 1, 0, 0, 0);
            case "forge.type(2, 1, 0, 1, 0);": return "" + FORGE.type(2, 1, 0, 1, 0);
            case "forge.member(1, 1, 0, 1);": return "" + FORGE.member(1, 1, 0, 1);
            case "forge.member(2, 1, 0, 1);": return "" + FORGE.member(2, 1, 0, 1);
            case "forge.refer(1, 0, 2, 0, 0);": return "" + FORGE.refer(1, 0, 2, 0, 0);
            case "forge.refer(1, 5, 1, 1, 0);": return "" + FORGE.refer(1, 5, 1, 1, 0);
            case "forge.rule();": return "" + FORGE.rule();
            case "forge.needs(2, 0);": return "" + FORGE.needs(2, 0);
            case "forge.part(2, 0);": return "" + FORGE.part(2, 0);
            case "forge.name(false, 2, 0);": return "" + FORGE.name(false, 2, 0);
            case "forge.mapping(-1);": return "" + FORGE.mapping(-1);
            case "forge.letter('a');": return "" + FORGE.letter('a');
            case "forge.trace('s', 0, true);": return "" + FORGE.trace('s', 0, true);
            default: return "a call that this test does not know";
        }
    }

    private static void write(String text) {
        for (int at = 0; at < text.length(); at++) {
            FORGE.letter(text.charAt(at));
        }
    }

    private static String mapping() {
        StringBuilder text = new StringBuilder();
        int length = FORGE.mapping(-1);
        for (int k = 0; k < length; k++) {
            text.append((char) FORGE.mapping(k));
        }
        return text.toString();
    }
}
