import java.io.IOException;
import java.nio.file.Files;
import java.nio.file.Path;
import java.util.List;
import java.util.Set;
import java.util.regex.Matcher;
import java.util.regex.Pattern;

/** The rules of LANGUAGE.md that can be seen from the class's text alone. */
public final class LanguageTest {
    private static final Path FILE = Path.of("src", "main", "java", "FalseName.java");
    private static final Set<String> CALLED = Set.of("Arrays.fill", "Integer.bitCount", "Math.abs", "Math.max", "Math.min",
        "System.arraycopy");

    public static void main(String[] args) {
        List<String> lines = List.of();
        try {
            lines = Files.readAllLines(FILE);
        } catch (IOException e) {
            Check.due("the class is there: " + e, 0, 1);
        }
        String text = String.join("\n", lines);
        Check.about("rule 4, constants' signs are 1 to 127");
        Check.due("other signs", text.chars().filter(c -> c > 127).count(), 0);
        String code = withoutWords(text);
        words(code);
        library(code);
        statics(code);
        sizes(lines);
        Check.about("");
        Check.end("LanguageTest");
    }

    /** Comments and what stands between quotes is left out. */
    private static String withoutWords(String text) {
        return text.replaceAll("(?s)/\\*.*?\\*/", "").replaceAll("\"[^\"\n]*\"", "\"\"").replaceAll("//[^\n]*", "");
    }

    private static int count(String code, String pattern) {
        Matcher matcher = Pattern.compile(pattern).matcher(code);
        int found = 0;
        while (matcher.find()) {
            found++;
        }
        return found;
    }

    private static void words(String code) {
        Check.about("rules 2, 6, 10, 13");
        for (String word : new String[] {"package", "finally", "synchronized", "assert", "protected", "native", "volatile",
            "transient", "strictfp", "hashCode", "getClass", "Object", "Thread", "Random", "var", "try", "catch"}) {
            Check.due("'" + word + "' is not used", count(code, "\\b" + word + "\\b"), 0);
        }
        Check.due("lambdas", count(code, "->"), 0);
        Check.due("method references", count(code, "::"), 0);
        Check.due("texts joined by +", count(code, "\"\"\\s*\\+|\\+\\s*\"\""), 0);
        Check.about("rule 6, exceptions");
        Check.due("throws", count(code, "\\bthrow\\b"), count(code, "\\bthrow new NoSuchElementException\\(\\);"));
    }

    private static void library(String code) {
        Check.about("rule 4, the library");
        Matcher matcher = Pattern.compile("import ([^;]*);").matcher(code);
        while (matcher.find()) {
            String name = matcher.group(1);
            boolean may = name.equals("java.util.Arrays") || name.equals("java.util.NoSuchElementException");
            Check.due("import " + name, may, true);
        }
        matcher = Pattern.compile("\\b(Arrays|Integer|Long|Math|System|String|Character)\\.\\w+").matcher(code);
        while (matcher.find()) {
            Check.due(matcher.group() + " is one of those", CALLED.contains(matcher.group()), true);
        }
    }

    private static void statics(String code) {
        Check.about("rule 5, static fields are final");
        Check.due("static fields that are not", count(code, "\\bstatic (?!final\\b)[\\w\\[\\]]+ \\w+ *[=;]"), 0);
        Check.due("static blocks", count(code, "\\bstatic *\\{"), 0);
        Check.about("rule 2, classes inside are static");
        Check.due("classes that are not", count(code, "(?<!static )(?<!static final )(?<!public final )\\bclass\\b"), 0);
    }

    private static void sizes(List<String> lines) {
        Check.about("rule 11");
        int classes = 0;
        int first = 0;
        for (int i = 0; i < lines.size(); i++) {
            String line = lines.get(i);
            classes += line.matches(" *(public |private |static |final )*class .*") ? 1 : 0;
            boolean isHead = line.matches(" +(public |private |static )*[\\w\\[\\]]+( \\w+)?\\([^()]*\\)[\\w ]* \\{")
                && !line.matches(" +(if|for|while|switch|return)\\b.*");
            if (isHead) {
                first = i;
                Check.due("parameters of " + line, line.chars().filter(c -> c == ',').count() < 7, true);
            }
            if (line.matches(" +}") && first > 0 && indent(line) == indent(lines.get(first))) {
                Check.due("a method of at most sixty lines: " + lines.get(first), i - first < 60, true);
                first = 0;
            }
        }
        Check.due("classes were found, and are at most twelve", classes > 1 && classes <= 12, true);
    }

    private static int indent(String line) {
        return line.length() - line.stripLeading().length();
    }
}
