import java.util.ArrayList;
import java.util.List;

/** What a sea's lines say, held and searched in the plainest way: no tables of shortest rows, only trying all. */
final class Model {
    final List<String> text = new ArrayList<>();
    int ports;
    int ships;
    int roles;
    int men;
    int parrot;
    final List<int[]> ways = new ArrayList<>();
    final List<int[]> mails = new ArrayList<>();
    final List<int[]> wanted = new ArrayList<>();
    final List<int[]> owed = new ArrayList<>();
    final List<int[]> needs = new ArrayList<>();
    final List<int[]> rains = new ArrayList<>();
    final List<String> shipNames = new ArrayList<>();
    State now;

    /** She at one time; facts are what an office saw or was told by itself: port, ship, day. */
    static final class State {
        int day;
        int port = -1;
        int name = -1;
        int before = -1;
        int coin;
        boolean caught;
        int had;
        int voyages;
        List<Integer> came = new ArrayList<>();
        List<int[]> facts = new ArrayList<>();
        List<int[]> taken = new ArrayList<>();
        List<int[]> known = new ArrayList<>();

        State copy() {
            State c = new State();
            c.day = day;
            c.port = port;
            c.name = name;
            c.before = before;
            c.coin = coin;
            c.caught = caught;
            c.had = had;
            c.voyages = voyages;
            c.came.addAll(came);
            c.facts.addAll(facts);
            c.taken.addAll(taken);
            c.known.addAll(known);
            return c;
        }
    }

    static boolean has(List<int[]> rows, int... first) {
        return of(rows, first) >= 0;
    }

    /** The last number of the row that begins so; -1: there is none. */
    static int of(List<int[]> rows, int... first) {
        for (int[] row : rows) {
            boolean same = true;
            for (int i = 0; i < first.length; i++) {
                same &= row[i] == first[i];
            }
            if (same) {
                return row[row.length - 1];
            }
        }
        return -1;
    }

    void start() {
        List<int[]> known = now == null ? new ArrayList<>() : now.known;
        now = new State();
        now.known = known;
        if (isForHer()) {
            now.port = 0;
            now.name = 0;
            now.had = 1;
        }
        for (int[] w : wanted) {
            now.facts.add(new int[] {w[1], w[0], 0});
        }
    }

    boolean isForHer() {
        return ports > 0 && ships > 0;
    }

    int way(int p, int q) {
        return Math.max(of(ways, p, q), of(ways, q, p));
    }

    /** Fewest days from p to q by steps of at most n; a million: none. */
    private int search(boolean byMail, int p, int q, int n) {
        if (p == q) {
            return 0;
        }
        int best = 1000000;
        for (int r = 0; n > 0 && r < ports; r++) {
            int days = byMail ? of(mails, p, r) : way(p, r);
            if (days > 0) {
                best = Math.min(best, days + search(byMail, r, q, n - 1));
            }
        }
        return best;
    }

    int far(int p, int q) {
        return memo(false, p, q);
    }

    int post(int p, int q) {
        return memo(true, p, q);
    }

    private final int[][] kept = new int[128][];

    private int memo(boolean byMail, int p, int q) {
        int i = (byMail ? 64 : 0) + p * 8 + q;
        if (kept[i] == null) {
            kept[i] = new int[] {search(byMail, p, q, ports - 1)};
        }
        return kept[i][0];
    }

    int knows(int p, int s) {
        int from = 1000000;
        for (int[] f : now.facts) {
            if (f[1] == s) {
                from = Math.min(from, f[2] + post(f[0], p));
            }
        }
        return from;
    }

    List<Integer> needsOf(int s) {
        List<Integer> list = new ArrayList<>();
        for (int r = 0; r < roles; r++) {
            if (has(needs, s, r)) {
                list.add(r);
            }
        }
        return list;
    }

    int[] bestCrew;
    int bestLacks;

    /** Tries all rows of men for a name's roles, in order: the first of the fewest lacks stays. */
    void tryCrews(int s) {
        List<Integer> list = needsOf(s);
        bestCrew = null;
        bestLacks = 1000;
        tryFrom(list, new int[list.size()], 0, 0);
    }

    private void tryFrom(List<Integer> list, int[] crew, int i, int lacks) {
        if (i == list.size()) {
            if (lacks < bestLacks) {
                bestLacks = lacks;
                bestCrew = crew.clone();
            }
            return;
        }
        for (int m = 0; m < men; m++) {
            boolean free = true;
            for (int j = 0; j < i; j++) {
                free &= crew[j] != m;
            }
            if (free) {
                crew[i] = m;
                tryFrom(list, crew, i + 1, lacks + (has(now.known, m, list.get(i)) ? 0 : 1));
            }
        }
    }

    int paint(int s) {
        if (!isForHer() || now.caught) {
            return 1;
        }
        if (now.name == s) {
            return 2;
        }
        tryCrews(s);
        if (bestLacks > 0) {
            return 3;
        }
        if (now.day + 1 > 999) {
            return 9;
        }
        now.day++;
        now.before = now.name;
        now.name = s;
        now.had |= 1 << s;
        return 0;
    }

    int sail(int p) {
        if (!isForHer() || now.caught) {
            return 1;
        }
        int days = way(now.port, p);
        if (days < 0) {
            return 2;
        }
        if (now.day + days > 999) {
            return 9;
        }
        now.day += days;
        now.port = p;
        now.voyages++;
        now.came.add(p);
        if (knows(p, now.name) <= now.day) {
            now.caught = true;
            for (int[] w : wanted) {
                now.coin -= w[1] == p ? w[2] : 0;
            }
        } else if (now.before >= 0 && has(rains, p, now.day % 100)) {
            now.facts.add(new int[] {p, now.name, now.day});
            now.facts.add(new int[] {p, now.before, now.day});
        }
        return 0;
    }

    int waits(int n) {
        if (!isForHer() || now.caught) {
            return 1;
        }
        if (now.day + n > 999) {
            return 9;
        }
        now.day += n;
        return 0;
    }

    int owed(int s, int p) {
        return has(now.taken, s, p) ? 0 : Math.max(0, of(owed, s, p));
    }

    int takes() {
        if (!isForHer() || now.caught) {
            return 1;
        }
        int sum = owed(now.name, now.port);
        if (sum == 0) {
            return 2;
        }
        now.coin += sum;
        now.taken.add(new int[] {now.name, now.port});
        return 0;
    }

    int learn(int m, int r) {
        if (!isForHer() || now.caught) {
            return 1;
        }
        if (has(now.known, m, r)) {
            return 2;
        }
        if (now.day + 3 > 999) {
            return 9;
        }
        now.day += 3;
        now.known.add(new int[] {m, r});
        return 0;
    }

    private int seed;

    private int draw(int n) {
        seed = seed * 1103515245 + 12345;
        return (seed >>> 8) % n;
    }

    int drawn(int n, int x) {
        seed = x;
        int tried = 0;
        for (; tried < n && !now.caught; tried++) {
            if (draw(3) == 0) {
                int s = draw(ships);
                paint(s);
            }
            int p = draw(ports);
            if (sail(p) == 0 && !now.caught) {
                if (draw(12) < parrot) {
                    now.facts.add(new int[] {now.port, now.name, now.day});
                }
            }
        }
        return tried;
    }

    int odds(int n, int x) {
        State real = now;
        int free = 0;
        for (int i = 0; i < n; i++) {
            now = real.copy();
            drawn(10, x + i);
            free += now.caught ? 0 : 1;
        }
        now = real;
        return free;
    }

    /** All rows of names below k in order: the first that fits. */
    int[] names() {
        for (int k = ports == 0 ? 0 : 1;; k++) {
            int[] row = new int[ports];
            boolean more = true;
            while (more) {
                if (fits(row)) {
                    return row;
                }
                int i = ports - 1;
                while (i >= 0 && row[i] == k - 1) {
                    row[i] = 0;
                    i--;
                }
                more = i >= 0;
                if (more) {
                    row[i]++;
                }
            }
        }
    }

    boolean hears(int p, int q) {
        return p != q && post(p, q) < 1000000;
    }

    private boolean fits(int[] row) {
        for (int p = 0; p < ports; p++) {
            for (int q = 0; q < ports; q++) {
                if (row[p] == row[q] && hears(p, q)) {
                    return false;
                }
            }
        }
        return true;
    }

    /** Puts each sighting to each ship in turn; a ship's sightings must all go with one another. */
    int register(int[] bytes, int i, List<List<Integer>> fleet, int best) {
        if (fleet.size() >= best) {
            return best;
        }
        if (2 * i == bytes.length) {
            return fleet.size();
        }
        for (int f = 0; f <= fleet.size(); f++) {
            boolean isNew = f == fleet.size();
            if (isNew) {
                fleet.add(new ArrayList<>());
            }
            boolean goes = true;
            for (int j : fleet.get(f)) {
                goes &= Math.abs(bytes[2 * i + 1] - bytes[2 * j + 1]) >= far(bytes[2 * i], bytes[2 * j]);
            }
            if (goes) {
                fleet.get(f).add(i);
                best = Math.min(best, register(bytes, i + 1, fleet, best));
                fleet.get(f).remove(fleet.get(f).size() - 1);
            }
            if (isNew) {
                fleet.remove(f);
                break;
            }
        }
        return best;
    }

    int over(int s, int t) {
        String a = shipNames.get(s);
        String b = shipNames.get(t);
        StringBuilder mix = new StringBuilder();
        for (int i = 0; i < Math.max(a.length(), b.length()); i++) {
            char c = i < a.length() ? a.charAt(i) : 'a';
            char d = i < b.length() ? b.charAt(i) : 'a';
            mix.append((char) Math.max(c, d));
        }
        return shipNames.indexOf(mix.toString());
    }
}
