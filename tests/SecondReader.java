import java.util.ArrayList;
import java.util.Arrays;
import java.util.HashMap;
import java.util.HashSet;
import java.util.List;
import java.util.Map;
import java.util.Set;

/** Reads the texts once more, by the document's grammar alone, over a list of all TOKENS. */
final class SecondReader {
    static final List<String> RESERVED = Arrays.asList(("port way mail ship wanted owed role needs man rain parrot sails "
        + "paints waits takes learns or and not here been safe knows hears far names number").split(" "));
    private static final Map<String, Integer> MOST =
        Map.of("port", 8, "way", 16, "mail", 20, "ship", 8, "role", 6, "man", 8, "rain", 16);

    private record Token(String text, int place) {
        boolean isWord() {
            return text.matches("[a-z]{1,7}");
        }

        boolean isName() {
            return isWord() && !RESERVED.contains(text);
        }

        boolean isNumber() {
            return text.matches("[0-9]{1,3}");
        }
    }

    private static final class Fault extends RuntimeException {
        private static final long serialVersionUID = 1;
        final int kind;
        final int place;

        Fault(int kind, int place) {
            this.kind = kind;
            this.place = place;
        }
    }

    /** Sorts of the names of the latest sea without a fault. */
    Map<String, String> names = new HashMap<>();
    private Map<String, String> draft;
    private List<Token> tokens;
    private int next;
    private int ones;

    int kind;
    int place;
    int answer;

    private static List<Token> split(String text, int most) {
        List<Token> list = new ArrayList<>();
        int i = 0;
        while (i < text.length()) {
            char c = text.charAt(i);
            int start = i;
            i++;
            if (c == ' ' || c == '\n') {
                continue;
            }
            if (isRun(c)) {
                while (i < text.length() && isRun(text.charAt(i))) {
                    i++;
                }
            }
            list.add(new Token(text.substring(start, i), start));
        }
        if (text.length() > most) {
            list.removeIf(t -> t.place >= most);
            list.add(new Token("too long", most));
        } else {
            list.add(new Token("", text.length()));
        }
        return list;
    }

    private static boolean isRun(char c) {
        return "abcdefghijklmnopqrstuvwxyz0123456789".indexOf(c) >= 0;
    }

    private void read(String text, int most, Runnable how) {
        tokens = split(text, most);
        next = 0;
        kind = 0;
        place = 0;
        answer = 0;
        try {
            how.run();
            if (!tokens.get(next).text.equals("")) {
                throw new Fault(1, tokens.get(next).place);
            }
        } catch (Fault f) {
            kind = f.kind;
            place = f.place;
        }
    }

    private boolean more() {
        String text = tokens.get(next).text;
        return !text.equals("") && !text.equals("too long");
    }

    private Token ahead() {
        return tokens.get(next);
    }

    private void must(boolean so, int fault) {
        if (!so) {
            throw new Fault(fault, ahead().place);
        }
    }

    private void sign(String sign) {
        must(ahead().text.equals(sign), 1);
        next++;
    }

    private String name(Map<String, String> told, String sort) {
        must(ahead().isName(), 1);
        must(sort.equals(told.get(ahead().text)), 3);
        return ahead().text;
    }

    private int number(int low, int high) {
        must(ahead().isNumber(), 1);
        int n = Integer.parseInt(ahead().text);
        must(n >= low && n <= high, 2);
        return n;
    }

    void sea(String text) {
        draft = new HashMap<>();
        read(text, 900, this::seaLines);
        if (kind == 0) {
            names = draft;
        }
    }

    private void seaLines() {
        Map<String, Integer> many = new HashMap<>();
        Set<String> told = new HashSet<>();
        while (more()) {
            String head = ahead().text;
            must(RESERVED.indexOf(head) >= 0 && RESERVED.indexOf(head) <= 10, 1);
            must(!head.equals("parrot") || told.add("parrot"), 3);
            must(many.merge(head, 1, Integer::sum) <= MOST.getOrDefault(head, 1000), 4);
            next++;
            switch (head) {
                case "port", "ship", "role", "man" -> {
                    must(ahead().isName(), 1);
                    must(!draft.containsKey(ahead().text), 3);
                    String name = ahead().text;
                    draft.put(name, head);
                    next++;
                    while (head.equals("man") && !ahead().text.equals(";")) {
                        must(told.add("man " + name + " " + name(draft, "role")), 3);
                        next++;
                    }
                }
                case "way", "mail" -> {
                    String p = name(draft, "port");
                    next++;
                    String q = name(draft, "port");
                    must(!p.equals(q) && told.add(head + " " + p + " " + q), 3);
                    must(head.equals("mail") || told.add(head + " " + q + " " + p), 3);
                    next++;
                    number(1, head.equals("way") ? 20 : 40);
                    next++;
                }
                case "wanted", "owed" -> {
                    String s = name(draft, "ship");
                    next++;
                    must(told.add(head + " " + s + " " + name(draft, "port")), 3);
                    next++;
                    number(1, 250);
                    next++;
                }
                case "needs" -> {
                    String s = name(draft, "ship");
                    next++;
                    must(told.add(head + " " + s + " " + name(draft, "role")), 3);
                    next++;
                }
                case "rain" -> {
                    String p = name(draft, "port");
                    next++;
                    must(told.add(head + " " + p + " " + number(0, 99)), 3);
                    next++;
                }
                default -> {
                    number(0, 12);
                    next++;
                }
            }
            sign(";");
            answer++;
        }
    }

    void log(String text) {
        read(text, 400, this::logLines);
    }

    private void logLines() {
        while (more()) {
            String head = ahead().text;
            boolean act = List.of("sails", "paints", "waits", "takes").contains(head);
            if (!act) {
                name(names, "man");
            }
            must(answer < 40, 4);
            next++;
            if (!act) {
                must(ahead().text.equals("learns"), 1);
                next++;
            }
            switch (head) {
                case "sails" -> name(names, "port");
                case "paints" -> name(names, "ship");
                case "waits" -> number(1, 60);
                case "takes" -> next--;
                default -> name(names, "role");
            }
            next++;
            sign(";");
            answer++;
        }
    }

    void sentence(String text) {
        ones = 0;
        read(text, 200, () -> cond(1));
        answer = ones;
    }

    private void cond(int within) {
        one(within);
        while (ahead().text.equals("or") || ahead().text.equals("and")) {
            next++;
            one(within);
        }
    }

    private void one(int within) {
        String head = ahead().text;
        must(head.equals("(") || RESERVED.indexOf(head) >= RESERVED.indexOf("not"), 1);
        ones++;
        must(ones <= 20 && within <= 8, 4);
        next++;
        switch (head) {
            case "not" -> one(within + 1);
            case "(" -> {
                cond(within + 1);
                sign(")");
            }
            case "here", "been", "safe" -> {
            }
            case "knows" -> {
                name(names, "ship");
                next++;
            }
            case "hears" -> {
                name(names, "port");
                next++;
            }
            default -> {
                must(List.of("<", "=", ">").contains(ahead().text), 1);
                next++;
                number(0, 999);
                next++;
            }
        }
    }
}
