import java.util.ArrayDeque;
import java.util.ArrayList;
import java.util.Arrays;
import java.util.Deque;
import java.util.List;
import java.util.Random;

/** Made seas and runs of calls on them, against the model. */
public final class RandomSeasTest {
    private static final Random RANDOM = new Random(20261118);
    private static FalseName x;
    private static Model model;
    private static Deque<Model.State> past;
    private static int calls;
    private static final Kept[] KEPT = new Kept[2];

    /** What an image must bring back. */
    private record Kept(Model model, Model.State now, List<Integer> said) {
    }

    public static void main(String[] args) {
        for (int run = 0; run < 400; run++) {
            x = new FalseName();
            Arrays.fill(KEPT, null);
            newSea(run);
            calls = 0;
            chart();
            while (calls < 450) {
                act();
                looks();
                if (below(6) == 0) {
                    images();
                }
                if (below(25) == 0) {
                    newSea(below(50));
                }
            }
        }
        Check.end("RandomSeasTest");
    }

    private static void images() {
        int k = below(3) - (below(9) == 0 ? 1 : 0);
        if (below(2) == 0) {
            due("image(" + k + ")", x.image(k) ? 1 : 0, k == 0 || k == 1 ? 1 : 0);
            if (k == 0 || k == 1) {
                KEPT[k] = new Kept(model, model.now.copy(), said());
            }
            return;
        }
        Kept kept = k == 0 || k == 1 ? KEPT[k] : null;
        due("restore(" + k + ")", x.restore(k) ? 1 : 0, kept == null ? 0 : 1);
        if (kept != null) {
            model = kept.model;
            model.now = kept.now.copy();
            past.clear();
            due("said() as kept", said().equals(kept.said) ? 1 : 0, 1);
            undo();
            chart();
            looks();
        }
    }

    /** Each answer of said(), the SENTENCE's whole meaning now. */
    private static List<Integer> said() {
        List<Integer> all = new ArrayList<>();
        for (int k = -1; k < 8; k++) {
            all.add(x.said(k));
        }
        calls += all.size();
        return all;
    }

    private static void due(String call, long got, long want) {
        calls++;
        Check.due(call + " in " + String.join("", model.text), got, want);
    }

    private static int below(int n) {
        return RANDOM.nextInt(n);
    }

    private static int orNone(int days) {
        return days >= 1000000 ? -1 : days;
    }

    /** The object gets a sea that is made anew; images of those ahead of it stay. */
    private static void newSea(int run) {
        model = new Model();
        past = new ArrayDeque<>();
        model.ports = run % 50 == 0 ? 0 : 1 + below(8);
        model.ships = run % 50 == 1 ? 0 : 1 + below(8);
        model.roles = below(5);
        model.men = below(7);
        for (int p = 0; p < model.ports; p++) {
            model.text.add("port p" + letters(p) + ";");
        }
        while (model.shipNames.size() < model.ships) {
            StringBuilder name = new StringBuilder();
            for (int length = 1 + below(3); length > 0; length--) {
                name.append((char) ('a' + below(3)));
            }
            if (!model.shipNames.contains(name.toString())) {
                model.shipNames.add(name.toString());
                model.text.add("ship " + name + ";");
            }
        }
        for (int r = 0; r < model.roles; r++) {
            model.text.add("role r" + letters(r) + ";");
        }
        fill();
        model.start();
        due("sea()", Check.sea(x, String.join("", model.text)), model.text.size());
        due("said(-1) of a new sea", x.said(-1), -1);
        undo();
    }

    private static String letters(int number) {
        return "" + (char) ('a' + number);
    }

    private static void fill() {
        Model.State first = new Model.State();
        model.now = first;
        for (int m = 0; m < model.men; m++) {
            StringBuilder line = new StringBuilder("man m" + letters(m));
            for (int r = 0; r < model.roles; r++) {
                if (below(3) == 0) {
                    line.append(" r").append(letters(r));
                    first.known.add(new int[] {m, r});
                }
            }
            model.text.add(line + ";");
        }
        for (int i = below(14); i > 0 && model.ports > 1; i--) {
            int p = below(model.ports);
            int q = below(model.ports);
            int days = 1 + below(below(2) == 0 ? 4 : 20);
            if (p != q && model.way(p, q) < 0) {
                model.ways.add(new int[] {p, q, days});
                model.text.add("way p" + letters(p) + " p" + letters(q) + " " + days + ";");
            }
        }
        for (int i = below(10); i > 0 && model.ports > 1; i--) {
            int p = below(model.ports);
            int q = below(model.ports);
            int days = 1 + below(40);
            if (p != q && !Model.has(model.mails, p, q)) {
                model.mails.add(new int[] {p, q, days});
                model.text.add("mail p" + letters(p) + " p" + letters(q) + " " + days + ";");
            }
        }
        for (int i = below(4); i > 0 && model.ports > 0 && model.ships > 0; i--) {
            prices(model.wanted, "wanted");
            prices(model.owed, "owed");
        }
        for (int i = below(7); i > 0 && model.roles > 0 && model.ships > 0; i--) {
            int s = below(model.ships);
            int r = below(model.roles);
            if (!Model.has(model.needs, s, r)) {
                model.needs.add(new int[] {s, r});
                model.text.add("needs " + model.shipNames.get(s) + " r" + letters(r) + ";");
            }
        }
        for (int i = below(12); i > 0 && model.ports > 0; i--) {
            int p = below(model.ports);
            int day = below(20);
            if (!Model.has(model.rains, p, day)) {
                model.rains.add(new int[] {p, day});
                model.text.add("rain p" + letters(p) + " " + day + ";");
            }
        }
        if (below(3) != 0) {
            model.parrot = below(13);
            model.text.add("parrot " + model.parrot + ";");
        }
    }

    private static void prices(List<int[]> rows, String word) {
        int s = below(model.ships);
        int p = below(model.ports);
        int n = 1 + below(250);
        if (!Model.has(rows, s, p)) {
            rows.add(new int[] {s, p, n});
            model.text.add(word + " " + model.shipNames.get(s) + " p" + letters(p) + " " + n + ";");
        }
    }

    /** What stays as long as the sea does. */
    private static void chart() {
        for (int p = 0; p < model.ports; p++) {
            for (int q = 0; q < model.ports; q++) {
                due("way", x.way(p, q), model.way(p, q));
                due("mail", x.mail(p, q), Model.of(model.mails, p, q));
                due("far", x.far(p, q), orNone(model.far(p, q)));
                due("hears", x.hears(p, q), model.hears(p, q) ? model.post(p, q) : -1);
            }
        }
        calls = 0;
        int[] names = model.names();
        int most = -1;
        for (int p = 0; p < model.ports; p++) {
            due("nameOf(" + p + ")", x.nameOf(p), names[p]);
            most = Math.max(most, names[p]);
        }
        due("names()", x.names(), most + 1);
        int pairs = 0;
        for (int s = 0; s < model.ships; s++) {
            for (int t = 0; t < model.ships; t++) {
                int third = s == t ? -1 : model.over(s, t);
                due("over(" + s + ", " + t + ")", x.over(s, t), third);
                if (s < t && third >= 0 && third != s && third != t) {
                    due("mixed(" + pairs + ")", x.mixed(pairs), 10 * s + t);
                    pairs++;
                }
            }
        }
        due("mixed(-1)", x.mixed(-1), pairs);
    }

    private static void act() {
        Model.State before = model.now.copy();
        int s = below(9) - (below(9) == 0 ? 1 : 0);
        boolean done = false;
        switch (below(12)) {
            case 0:
            case 1: {
                int why = s < 0 || s >= model.ships ? -1 : model.paint(s);
                due("paint(" + s + ")", x.paint(s), why);
                done = why == 0;
                break;
            }
            case 2:
            case 3:
            case 4:
            case 5: {
                int why = s < 0 || s >= model.ports ? -1 : model.sail(s);
                due("sail(" + s + ")", x.sail(s), why);
                done = why == 0;
                break;
            }
            case 6: {
                int n = below(20) == 0 ? 60 : below(5);
                int why = n < 1 ? -1 : model.waits(n);
                due("waits(" + n + ")", x.waits(n), why);
                done = why == 0;
                break;
            }
            case 7: {
                int why = model.takes();
                due("takes()", x.takes(), why);
                done = why == 0;
                break;
            }
            case 8: {
                int r = below(6);
                int why = s < 0 || s >= model.men || r >= model.roles ? -1 : model.learn(s, r);
                due("learn(" + s + ", " + r + ")", x.learn(s, r), why);
                done = why == 0;
                break;
            }
            case 9:
                undo();
                undo();
                return;
            case 10: {
                int n = 1 + below(4);
                int seed = RANDOM.nextInt();
                int tried = model.isForHer() ? model.drawn(n, seed) : -1;
                due("drawn(" + n + ", " + seed + ")", x.drawn(n, seed), tried);
                done = tried > 0;
                break;
            }
            default:
                done = log(below(2));
                break;
        }
        if (done) {
            past.push(before);
            if (past.size() > 8) {
                past.removeLast();
            }
        }
    }

    private static void undo() {
        int want = past.isEmpty() ? -1 : past.size() - 1;
        due("undo()", x.undo(), want);
        if (!past.isEmpty()) {
            model.now = past.pop();
        }
    }

    private static boolean log(int lives) {
        Model.State real = model.now;
        model.now = real.copy();
        StringBuilder text = new StringBuilder();
        int wrong = -1;
        int why = 0;
        int lines = below(6);
        int right = 0;
        for (int i = 0; i < lines; i++) {
            int[] line = logLine(text, wrong < 0);
            if (wrong < 0 && line[0] != 0) {
                wrong = i;
                why = line[0];
            }
            right += wrong < 0 ? 1 : 0;
        }
        due("log(" + lives + ") of " + text, Check.log(x, text.toString(), lives), wrong);
        due("logged(0) of " + text, x.logged(0), why);
        due("logged(1) of " + text, x.logged(1), right);
        due("logged(2) of " + text, x.logged(2), model.now.day);
        due("logged(3) of " + text, x.logged(3), model.now.caught ? 1 : 0);
        if (lives == 0) {
            model.now = real;
        }
        return lives == 1 && right > 0;
    }

    /** Why it is wrong. */
    private static int[] logLine(StringBuilder text, boolean lived) {
        int kind = below(5);
        int reason = 0;
        if (kind == 0 && model.ships > 0) {
            int s = below(model.ships);
            text.append("paints ").append(model.shipNames.get(s)).append(';');
            reason = lived ? model.paint(s) : 0;
        } else if (kind <= 1 && model.ports > 0) {
            int p = below(model.ports);
            text.append("sails p").append(letters(p)).append(';');
            reason = lived ? model.sail(p) : 0;
            reason += reason == 0 ? 0 : 10;
        } else if (kind == 2 && model.men > 0 && model.roles > 0) {
            int m = below(model.men);
            int r = below(model.roles);
            text.append("m").append(letters(m)).append(" learns r").append(letters(r)).append(';');
            reason = lived ? model.learn(m, r) : 0;
            reason += reason == 0 ? 0 : 40;
        } else if (kind == 3) {
            text.append("takes;");
            reason = lived ? model.takes() : 0;
            reason += reason == 0 ? 0 : 30;
        } else {
            int n = 1 + below(60);
            text.append("waits ").append(n).append(";\n");
            reason = lived ? model.waits(n) : 0;
            reason += reason == 0 ? 0 : 20;
        }
        return new int[] {reason};
    }

    private static void looks() {
        Model.State now = model.now;
        int[] want = {now.day, now.port, now.name, now.before, now.coin, now.caught ? 1 : 0, now.had, now.voyages};
        for (int what = 0; what < 8; what++) {
            due("now(" + what + ")", x.now(what), want[what]);
        }
        if (model.ports > 0) {
            port(below(model.ports));
        }
        if (model.ships > 0) {
            ship(below(model.ships));
        }
        soonest();
        if (below(8) == 0) {
            int n = 1 + below(5);
            int seed = RANDOM.nextInt();
            due("odds(" + n + ", " + seed + ")", x.odds(n, seed), model.isForHer() ? model.odds(n, seed) : -1);
        }
        if (below(4) == 0) {
            register();
        }
        sentence();
    }

    private static void port(int p) {
        Model.State now = model.now;
        int known = 0;
        int wanted = 0;
        int came = 0;
        int ways = 0;
        int mails = 0;
        int safe = 0;
        int comes = model.isForHer() ? now.day + model.way(now.port, p) : 0;
        for (int s = 0; s < model.ships; s++) {
            known |= model.knows(p, s) <= now.day ? 1 << s : 0;
            wanted |= Model.has(model.wanted, s, p) ? 1 << s : 0;
            safe |= model.knows(p, s) > comes ? 1 << s : 0;
            due("knows(" + p + ", " + s + ")", x.knows(p, s), orNone(model.knows(p, s)));
        }
        for (int q : now.came) {
            came += q == p ? 1 : 0;
        }
        for (int q = 0; q < model.ports; q++) {
            ways |= model.way(p, q) > 0 ? 1 << q : 0;
            mails |= Model.has(model.mails, q, p) ? 1 << q : 0;
        }
        int rain = Model.has(model.rains, p, now.day % 100) ? 1 : 0;
        int[] want = {known, wanted, came, rain, ways, mails};
        for (int what = 0; what < 6; what++) {
            due("port(" + p + ", " + what + ")", x.port(p, what), want[what]);
        }
        boolean sails = model.isForHer() && !now.caught && model.way(now.port, p) > 0;
        due("safe(" + p + ")", x.safe(p), sails ? safe : -1);
        boolean reached = model.isForHer() && model.far(now.port, p) < 1000000;
        int outruns = !reached ? -1 : now.day + model.far(now.port, p) < model.knows(p, now.name) ? 1 : 0;
        due("outruns(" + p + ")", x.outruns(p), outruns);
    }

    private static void ship(int s) {
        int net = 0;
        int first = -1;
        for (int p = 0; p < model.ports; p++) {
            int wanted = Math.max(0, Model.of(model.wanted, s, p));
            due("price(" + s + ", " + p + ", 0)", x.price(s, p, 0), wanted);
            due("price(" + s + ", " + p + ", 1)", x.price(s, p, 1), model.owed(s, p));
            net += model.owed(s, p) - wanted;
            int known = model.knows(p, s);
            if (known < 1000000 && (first < 0 || known < model.knows(first, s))) {
                first = p;
            }
        }
        due("net(" + s + ")", x.net(s), net);
        due("first(" + s + ")", x.first(s), first);
        model.tryCrews(s);
        due("lacks(" + s + ")", x.lacks(s), model.bestCrew == null ? -1 : model.bestLacks);
        for (int k = 0; model.bestCrew != null && k < model.bestCrew.length; k++) {
            due("plays(" + s + ", " + k + ")", x.plays(s, k), model.bestCrew[k]);
        }
        int needs = 0;
        for (int r : model.needsOf(s)) {
            needs |= 1 << r;
        }
        due("needs(" + s + ")", x.needs(s), needs);
        for (int m = 0; m < model.men; m++) {
            int skills = 0;
            for (int r = 0; r < model.roles; r++) {
                skills |= Model.has(model.now.known, m, r) ? 1 << r : 0;
            }
            due("man(" + m + ")", x.man(m), skills);
        }
    }

    private static void soonest() {
        Model.State now = model.now;
        int where = -1;
        int soonest = -1;
        for (int p = 0; p < model.ports && model.isForHer() && !now.caught; p++) {
            int far = model.far(now.port, p);
            boolean goes = far < 1000000 && model.owed(now.name, p) > 0;
            if (goes && (p == now.port || now.day + far < model.knows(p, now.name))) {
                if (where < 0 || now.day + far < soonest) {
                    where = p;
                    soonest = now.day + far;
                }
            }
        }
        due("soonest()", x.soonest(), soonest);
        due("where()", x.where(), where);
    }

    private static void register() {
        if (model.ports == 0) {
            return;
        }
        int[] bytes = new int[2 * (2 + below(9))];
        for (int i = 0; i < bytes.length; i += 2) {
            bytes[i] = below(model.ports);
            bytes[i + 1] = below(below(3) == 0 ? 256 : 30);
        }
        due("register()", Check.register(x, bytes), model.register(bytes, 0, new ArrayList<>(), 11));
    }

    private static int ones;

    private static void sentence() {
        StringBuilder text = new StringBuilder();
        ones = 0;
        boolean[] holds = cond(text, 1);
        int got = Check.sentence(x, text.toString());
        if (ones > 20 || text.length() > 200) {
            due("refused: " + text, got < 0 ? 1 : 0, 1);
            return;
        }
        due("sentence() of " + text, got, ones);
        int many = 0;
        for (int p = 0; p < model.ports; p++) {
            if (holds[p]) {
                due("said(" + many + ") of " + text, x.said(many), p);
                many++;
            }
        }
        due("said(-1) of " + text, x.said(-1), many);
        due("said(" + many + ") of " + text, x.said(many), -1);
    }

    private static boolean[] cond(StringBuilder text, int depth) {
        boolean[] any = all(text, depth);
        while (below(3) == 0) {
            text.append(" or ");
            boolean[] next = all(text, depth);
            for (int p = 0; p < 8; p++) {
                any[p] |= next[p];
            }
        }
        return any;
    }

    private static boolean[] all(StringBuilder text, int depth) {
        boolean[] each = one(text, depth);
        while (below(3) == 0) {
            text.append("\nand ");
            boolean[] next = one(text, depth);
            for (int p = 0; p < 8; p++) {
                each[p] &= next[p];
            }
        }
        return each;
    }

    private static boolean[] one(StringBuilder text, int depth) {
        ones++;
        int kind = below(depth >= 8 ? 6 : 9);
        if (kind == 8) {
            text.append("(");
            boolean[] inner = cond(text, depth + 1);
            text.append(")");
            return inner;
        }
        boolean[] holds = new boolean[8];
        if (kind >= 6) {
            text.append("not ");
            boolean[] inner = one(text, depth + 1);
            for (int p = 0; p < 8; p++) {
                holds[p] = !inner[p];
            }
            return holds;
        }
        Model.State now = model.now;
        int s = model.ships == 0 ? -1 : below(model.ships);
        int q = model.ports == 0 ? -1 : below(model.ports);
        int n = below(5) == 0 ? below(1000) : below(12);
        char sign = "<=>".charAt(below(3));
        int which = below(8);
        String[] words = {"here", "been", "safe", "knows", "hears", "far", "names", "number"};
        if (which == 3 && s < 0 || which == 4 && q < 0) {
            which = 0;
        }
        text.append(words[which]);
        if (which == 3) {
            text.append(' ').append(model.shipNames.get(s));
        } else if (which == 4) {
            text.append(" p").append(letters(q));
        } else if (which > 4) {
            text.append(sign).append(n);
        }
        for (int p = 0; p < model.ports; p++) {
            int names = 0;
            for (int t = 0; t < model.ships; t++) {
                names += model.knows(p, t) <= now.day ? 1 : 0;
            }
            boolean there = model.isForHer();
            int far = there ? model.far(now.port, p) : 1000000;
            int way = there ? model.way(now.port, p) : -1;
            int number = which == 5 ? far : which == 6 ? names : p;
            switch (which) {
                case 0:
                    holds[p] = now.port == p;
                    break;
                case 1:
                    holds[p] = there && (p == 0 || now.came.contains(p));
                    break;
                case 2:
                    holds[p] = way > 0 && !now.caught && model.knows(p, now.name) > now.day + way;
                    break;
                case 3:
                    holds[p] = model.knows(p, s) <= now.day;
                    break;
                case 4:
                    holds[p] = model.hears(q, p);
                    break;
                default:
                    holds[p] = sign == '<' ? number < n : sign == '>' ? number > n : number == n;
                    break;
            }
        }
        return holds;
    }
}
