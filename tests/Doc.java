import java.io.IOException;
import java.nio.file.Files;
import java.nio.file.Path;
import java.util.HashMap;
import java.util.HashSet;
import java.util.Map;
import java.util.Set;

/** The document's sentences: each boundary test names the one that it holds, and it must stand there word for word. */
final class Doc {
    private static final Path FILE = Path.of("..", "shared", "DOC.md");
    private static final int PROMISES = 44;
    private static final Map<String, String> SECTIONS = read();
    private static final Set<String> NAMED = new HashSet<>();

    private Doc() {
    }

    /** The sections by their names: "Terms", "==== 2", "==== 3", "Promise 1", .., with one blank between words. */
    private static Map<String, String> read() {
        Map<String, String> sections = new HashMap<>();
        String name = "";
        try {
            for (String line : Files.readAllLines(FILE)) {
                if (line.startsWith("## ")) {
                    name = line.substring(3).replaceAll(":.*", "").strip();
                } else if (line.startsWith("==== ")) {
                    name = line.substring(0, line.indexOf('.'));
                }
                sections.merge(name, line.strip(), (before, more) -> before + " " + more);
            }
        } catch (IOException e) {
            Check.due("the document is there: " + e, 0, 1);
        }
        return sections;
    }

    /** What comes next holds this sentence of this section. */
    static void says(String section, String sentence) {
        Check.about(section + ", \"" + sentence + "\"");
        Check.due("it stands in the document", SECTIONS.getOrDefault(section, "").contains(sentence), true);
        Check.due("it is held in one place", NAMED.add(section + "\n" + sentence), true);
    }

    /** All promises were named. */
    static void end() {
        Check.about("");
        for (int i = 1; i <= PROMISES; i++) {
            String section = "Promise " + i + "\n";
            Check.due("tests of Promise " + i, NAMED.stream().anyMatch(s -> s.startsWith(section)), true);
        }
        System.out.println(NAMED.size() + " sentences of the document were held");
    }
}
