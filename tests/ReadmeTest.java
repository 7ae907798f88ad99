import java.io.IOException;
import java.nio.file.Files;
import java.nio.file.Path;
import java.util.List;

/** The README's example, call by call: each stands there with the answer that it has. */
public final class ReadmeTest {
    private static List<String> lines = List.of();
    private static int at;

    public static void main(String[] args) {
        try {
            lines = Files.readAllLines(Path.of("README.md"));
        } catch (IOException e) {
            Check.due("README.md is there: " + e, 0, 1);
        }
        holdsPut();
        example();
        holdsFace();
        Check.end("ReadmeTest");
    }

    /** The README's way to put a text on the tape. */
    static void put(FalseName x, String text) {
        x.end(0);
        for (int i = 0; i < text.length(); i += 20) {
            int[] five = new int[5];
            for (int j = i; j < i + 20 && j < text.length(); j++) {
                five[(j - i) / 4] |= (text.charAt(j) & 255) << 24 - 8 * (j % 4);
            }
            x.feed(five[0], five[1], five[2], five[3], five[4]);
        }
        x.end(text.length());
    }

    private static void holdsPut() {
        try {
            List<String> own = Files.readAllLines(Path.of("tests", "ReadmeTest.java"));
            int first = own.indexOf("    static void put(FalseName x, String text) {");
            for (int i = first; !own.get(i).equals("    }"); i++) {
                String line = own.get(i).substring(4);
                Check.due("the README has the line '" + line + "'", lines.contains(line), true);
            }
        } catch (IOException e) {
            Check.due("this test's own text is there: " + e, 0, 1);
        }
    }

    /** The next line of the README that begins with this call tells this answer behind it. */
    private static void told(String call, Object got) {
        while (at < lines.size() && !lines.get(at).startsWith(call + ";")) {
            at++;
        }
        String line = at < lines.size() ? lines.get(at) : "";
        boolean same = line.matches(".*; +// " + got + "([:,;].*)?");
        Check.due(call + " answers " + got + ", and the README has it so: '" + line + "'", same, true);
        at++;
    }

    private static void texts(String text) {
        while (at < lines.size() && !lines.get(at).startsWith("put(")) {
            at++;
        }
        StringBuilder joined = new StringBuilder();
        while (at < lines.size() && joined.indexOf(");") < 0) {
            joined.append(lines.get(at).strip());
            at++;
        }
        StringBuilder want = new StringBuilder("put(x, \"");
        for (char sign : text.toCharArray()) {
            want.append(sign < ' ' ? "\\" + (int) sign : "" + sign);
        }
        want.append("\");");
        String got = joined.toString().replaceAll("\"\\+ \"|\" ?\\+ ?\"", "");
        Check.due("the README puts " + want + ", not " + got, got.contentEquals(want), true);
    }

    private static void example() {
        FalseName x = new FalseName();
        String sea = "port rome; port bari; port oran;"
            + "way rome bari 3; way bari oran 5; way rome oran 9;"
            + "mail bari oran 2;"
            + "ship ad; ship ba; ship bd;"
            + "wanted ba bari 20; owed ad oran 50;"
            + "role cook; needs ba cook; man tom cook;"
            + "rain oran 9; parrot 4;";
        texts(sea);
        put(x, sea);
        told("x.sea()", x.sea());
        told("x.knows(2, 1)", x.knows(2, 1));
        told("x.safe(1)", x.safe(1));
        told("x.paint(1)", x.paint(1));
        told("x.sail(1)", x.sail(1));
        told("x.now(5)", x.now(5));
        told("x.now(4)", x.now(4));
        told("x.undo()", x.undo());
        told("x.undo()", x.undo());
        told("x.image(0)", x.image(0));
        String log = "sails oran; takes; paints bd; sails bari; takes;";
        texts(log);
        put(x, log);
        told("x.log(1)", x.log(1));
        told("x.logged(0)", x.logged(0));
        told("x.now(4)", x.now(4));
        String sentence = "far < 6 and not knows ba or here";
        texts(sentence);
        put(x, sentence);
        told("x.sentence()", x.sentence());
        told("x.said(-1)", x.said(-1));
        told("x.said(0)", x.said(0));
        String pairs = "\u0000\u0000\u0001\u0003\u0002\u0003";
        texts(pairs);
        put(x, pairs);
        told("x.register()", x.register());
        String bad = "port rome; port rome;";
        texts(bad);
        put(x, bad);
        told("x.sea()", x.sea());
        told("x.fault()", x.fault());
        told("x.restore(0)", x.restore(0));
        told("x.now(0)", x.now(0));
    }

    /** Each method of the face is named in the README's tables. */
    private static void holdsFace() {
        String all = String.join("\n", lines);
        for (java.lang.reflect.Method method : FalseName.class.getDeclaredMethods()) {
            if (java.lang.reflect.Modifier.isPublic(method.getModifiers())) {
                Check.due("the README names " + method.getName(), all.contains("`" + method.getName() + "("), true);
            }
        }
    }
}
