import java.util.HashSet;
import java.util.Random;
import java.util.Set;

/** Texts that are right, nearly right and wrong, against a second reader. */
public final class RandomTextsTest {
    private static final Random RANDOM = new Random(7);
    private static final String[] NAMES = {"a", "b", "c", "d", "e", "f", "g", "h", "i", "rome", "oran", "abcdefg"};
    private static final String BASE = "port a;port b;port c;port d;port e;port f;ship sa;ship sb;ship sc;ship sd;ship se;"
        + "ship sf;role ra;role rb;role rc;role rd;role re;role rf;man ma;man mb;man mc;man md;man me;man mf;";
    private static final String[] SEA_WORDS = {"port", "way", "mail", "ship", "wanted", "owed", "role", "needs", "man",
        "rain", "parrot"};
    /** How often each kind of fault, or none, was due: of a sea, a log, a sentence. */
    private static final int[][] KINDS = new int[3][5];

    public static void main(String[] args) {
        for (int run = 0; run < 3000; run++) {
            FalseName x = new FalseName();
            SecondReader second = new SecondReader();
            second.sea(BASE);
            Check.sea(x, BASE);
            for (int i = 0; i < 5; i++) {
                String sea = hurt(seaText(), 900);
                second.sea(sea);
                int got = Check.sea(x, sea);
                judge(x, "sea " + sea, got, second, second.kind == 0 ? second.answer : -1 - second.place);
                for (int j = 0; j < 3; j++) {
                    String log = hurt(logText(), 400);
                    second.log(log);
                    got = Check.log(x, log, j % 2);
                    int want = second.kind == 0 ? Math.max(-1, got) : -2 - second.place;
                    judge(x, "log " + log + " behind " + sea, got, second, want);
                    String sentence = hurt(sentenceText(1), 200);
                    second.sentence(sentence);
                    got = Check.sentence(x, sentence);
                    judge(x, "sentence " + sentence, got, second, second.kind == 0 ? second.answer : -1 - second.place);
                }
            }
        }
        for (int sort = 0; sort < 3; sort++) {
            for (int kind = 0; kind <= 4; kind++) {
                boolean never = sort == 2 && kind == 2;
                Check.due("enough of kind " + kind + " of " + sort, never || KINDS[sort][kind] > 150, true);
            }
        }
        Check.end("RandomTextsTest");
    }

    private static void judge(FalseName x, String text, int got, SecondReader second, int want) {
        KINDS["sls".indexOf(text.charAt(0)) + (text.charAt(2) == 'n' ? 2 : 0)][second.kind]++;
        Check.due(text, got, want);
        Check.due("fault() of " + text, x.fault(), second.kind);
        Check.due("the tape behind " + text, x.count(7), 0);
    }

    private static int below(int n) {
        return RANDOM.nextInt(n);
    }

    private static String name() {
        return below(40) == 0 ? SEA_WORDS[below(SEA_WORDS.length)] : NAMES[below(NAMES.length)];
    }

    /** A name that was told as a sort, mostly: ports a .. h, ships sa .., roles ra .., men ma .. */
    private static String of(char sort) {
        if (below(150) == 0) {
            return name();
        }
        char letter = (char) ('a' + below(6));
        return sort == 'p' ? "" + letter : "" + sort + letter;
    }

    private static String number(int most) {
        return below(50) == 0 ? "" + below(1200) : "" + (1 + below(most));
    }

    private static String seaText() {
        StringBuilder text = new StringBuilder();
        int all = below(4) == 0 ? 2 + below(8) : 6 + below(2);
        if (below(3) == 0) {
            text.append(below(8) != 0 ? BASE : "");
        } else {
            for (int i = 0; i < all; i++) {
                char c = (char) ('a' + i);
                text.append("port ").append(c).append(below(20) == 0 ? "\n; " : ";");
                text.append("ship s").append(c).append(i < 8 ? ";" : " ;");
                text.append(i < 6 || below(5) == 0 ? "role r" + c + ";" : "");
                text.append("man m").append(c).append(i > 0 && below(2) == 0 ? " ra;" : ";");
            }
        }
        Set<String> told = new HashSet<>();
        for (int i = below(60); i > 0; i--) {
            String[] pair = switch (below(9)) {
                case 0, 1, 2 -> new String[] {"way " + of('p') + " " + of('p'), " " + number(20)};
                case 3, 4, 5 -> new String[] {"mail " + of('p') + " " + of('p'), " " + number(40)};
                case 6 -> new String[] {(below(2) == 0 ? "wanted " : "owed ") + of('s') + " " + of('p'), " " + number(250)};
                case 7 -> new String[] {"needs " + of('s') + " " + of('r'), ""};
                default -> new String[] {"rain " + of('p') + " " + (below(99) == 0 ? 100 : below(100)), ""};
            };
            String[] words = pair[0].split(" ");
            boolean again = words[1].equals(words[2]) || !told.add(pair[0]);
            if (words[0].equals("way")) {
                again |= !told.add("way " + words[2] + " " + words[1]);
            }
            if (!again || below(60) == 0) {
                text.append(pair[0]).append(pair[1]).append(';');
            }
        }
        if (below(2) == 0) {
            text.append("parrot ").append(number(12)).append(';');
        }
        if (below(3) == 0) {
            String tail = "port a;way a b 2;rain c 3;";
            text.insert(0, " ".repeat(Math.max(0, 890 + below(25) - text.length()))).append(below(2) == 0 ? tail : "");
        }
        return text.substring(0, Math.min(940, text.length()));
    }

    private static String logText() {
        StringBuilder text = new StringBuilder();
        int lines = below(3) == 0 ? 38 + below(5) : below(9);
        for (int i = 0; i < lines; i++) {
            switch (below(lines > 20 ? 9 : 6)) {
                case 0 -> text.append("sails ").append(of('p'));
                case 1 -> text.append("paints ").append(of('s'));
                case 2 -> text.append(of('m')).append(" learns ").append(of('r'));
                case 3, 4 -> text.append("waits ").append(number(60));
                default -> text.append("takes");
            }
            text.append(below(6) == 0 ? " ;\n" : ";");
        }
        return text.toString();
    }

    private static String sentenceText(int depth) {
        StringBuilder text = new StringBuilder();
        int parts = 1 + below(below(5) == 0 ? 9 : 2);
        for (int i = 0; i < parts; i++) {
            text.append(i == 0 ? "" : below(2) == 0 ? " and " : " or ");
            switch (below(depth > 9 ? 4 : 8)) {
                case 0 -> text.append(new String[] {"here", "been", "safe"}[below(3)]);
                case 1 -> text.append("knows ").append(of('s'));
                case 2 -> text.append("hears ").append(of('p'));
                case 3 -> text.append(new String[] {"far", "names", "number"}[below(3)]).append("<=>".charAt(below(3)))
                    .append(number(999));
                case 4, 5 -> text.append("not ".repeat(1 + below(below(4) == 0 ? 9 : 2))).append("here");
                default -> text.append('(').append(sentenceText(depth + 1)).append(')');
            }
        }
        return text.toString();
    }

    /** Half of all texts lose, gain or change some signs; some are stretched to about the most bytes. */
    private static String hurt(String text, int most) {
        StringBuilder hurt = new StringBuilder(text);
        if (below(6) == 0) {
            while (hurt.length() < most - 5 + below(12)) {
                hurt.append(below(3) == 0 ? '\n' : ' ');
            }
            hurt.append(below(2) == 0 ? text.substring(0, Math.min(20, text.length())) : "");
        }
        for (int i = below(2) == 0 ? 0 : 1 + below(2); i > 0 && hurt.length() > 0; i--) {
            int at = below(hurt.length());
            char sign = "az09 ;<=>().AZ\n\t\u0000\u00ff\u00e9".charAt(below(19));
            switch (below(3)) {
                case 0 -> hurt.deleteCharAt(at);
                case 1 -> hurt.insert(at, sign);
                default -> hurt.setCharAt(at, sign);
            }
        }
        return hurt.substring(0, Math.min(940, hurt.length()));
    }
}
