import java.util.Arrays;
import java.util.NoSuchElementException;

/** A ship that sails only under false names: the sea, her acts, what offices know, and what follows from it. */
public final class FalseName {
    public static final int NONE = -1;

    /** All words that texts tell, by their numbers below; none of them is a NAME. */
    private static final String WORDS = "port way mail ship role man rain parrot wanted owed needs sails paints waits takes learns or and not here been safe knows hears far names number ";
    private static final int PORT = 0;
    private static final int WAY = 1;
    private static final int MAIL = 2;
    private static final int SHIP = 3;
    private static final int ROLE = 4;
    private static final int MAN = 5;
    private static final int RAIN = 6;
    private static final int PARROT = 7;
    private static final int WANTED = 8;
    private static final int OWED = 9;
    private static final int NEEDS = 10;
    private static final int SAILS = 11;
    private static final int PAINTS = 12;
    private static final int WAITS = 13;
    private static final int TAKES = 14;
    private static final int LEARNS = 15;
    private static final int OR = 16;
    private static final int AND = 17;
    private static final int NOT = 18;
    private static final int HERE = 19;
    private static final int BEEN = 20;
    private static final int SAFE = 21;
    private static final int KNOWS = 22;
    private static final int HEARS = 23;
    private static final int FAR = 24;
    private static final int NAMES = 25;
    private static final int NUMBER = 26;
    private static final int WORD_COUNT = 27;

    /** How many there may be of PORT .. RAIN. */
    private static final int[] MOST = {8, 16, 20, 8, 6, 8, 16};
    private static final int MOST_NAMES = 30;

    /** The length of a table's row; no PORT, SHIP, ROLE, MAN has a number as high. */
    private static final int ROW = 8;
    private static final int TABLE = 64;

    /** Above all DAYS that can come, and still far from wrapping when some are added. */
    private static final int NEVER = 1000000;
    private static final int LAST_DAY = 999;
    private static final int LATE = 9;

    private static final int TAPE = 940;
    private static final int SEA_BYTES = 900;
    private static final int LOG_BYTES = 400;
    private static final int LOG_LINES = 40;
    private static final int SENTENCE_BYTES = 200;
    private static final int MOST_ONES = 20;
    private static final int HIGHEST = 999;
    private static final int MOST_WITHIN = 8;

    private static final int MOST_UNDONE = 8;
    private static final int IMAGES = 2;
    private static final int MOST_PAIRS = 10;
    private static final int LONGEST_WAIT = 60;
    private static final int MOST_DRAWN = 60;
    private static final int MOST_SEEDS = 30;
    private static final int ODDS_VOYAGES = 10;
    private static final int LONGEST_LAST = 6;
    private static final int PARROT_OF = 12;

    private final byte[] tape = new byte[TAPE];
    private int tapeSize;

    private final Reader reader = new Reader(tape);
    private int latestFault;

    private final Sea sea = new Sea();
    private final Sea draftSea = new Sea();
    private final SeaReader seaReader = new SeaReader(reader, draftSea);

    private final Sentence sentence = new Sentence();
    private final Sentence draftSentence = new Sentence();
    private final SentenceReader sentenceReader = new SentenceReader(reader, sea.names, draftSentence);

    private final Log log = new Log(reader, sea.names);

    private Ship her = new Ship(sea);
    /** Acts are tried on this copy, so that one that is not done leaves nothing behind. */
    private Ship trial = new Ship(sea);
    private final Ship[] past = new Ship[MOST_UNDONE];
    private int pastCount;

    private final Image[] images = new Image[IMAGES];
    private final Allotment allotment = new Allotment(sea);
    private final Register register = new Register(sea, tape);

    public FalseName() {
        for (int i = 0; i < MOST_UNDONE; i++) {
            past[i] = new Ship(sea);
        }
        her.start();
    }

    // ---- the tape and the texts

    public int feed(int a, int b, int c, int d, int e) {
        if (tapeSize + 20 > TAPE) {
            return NONE;
        }
        putBytes(a);
        putBytes(b);
        putBytes(c);
        putBytes(d);
        putBytes(e);
        return tapeSize;
    }

    private void putBytes(int number) {
        for (int shift = 24; shift >= 0 && tapeSize < TAPE; shift -= 8) {
            tape[tapeSize] = (byte) (number >>> shift);
            tapeSize++;
        }
    }

    public boolean end(int n) {
        if (n < 0 || n > tapeSize) {
            return false;
        }
        tapeSize = n;
        return true;
    }

    private int takeTape() {
        int size = tapeSize;
        tapeSize = 0;
        return size;
    }

    public int sea() {
        int lines = seaReader.read(takeTape());
        latestFault = reader.fault;
        if (reader.fault != 0) {
            return -1 - reader.place;
        }
        sea.copyFrom(draftSea);
        her.start();
        sentence.clear();
        pastCount = 0;
        return lines;
    }

    public int fault() {
        return latestFault;
    }

    public int sentence() {
        int ones = sentenceReader.read(takeTape());
        latestFault = reader.fault;
        if (reader.fault != 0) {
            return -1 - reader.place;
        }
        sentence.copyFrom(draftSentence);
        return ones;
    }

    public int said(int k) {
        if (!sentence.isThere()) {
            return NONE;
        }
        int ports = sentence.portsFor(her);
        return k == NONE ? Integer.bitCount(ports) : bitAt(ports, k);
    }

    /** Which is the k-th bit (from 0) that is set; NONE, if there are not so many. */
    private static int bitAt(int bits, int k) {
        int passed = 0;
        for (int i = 0; i < ROW; i++) {
            if ((bits >> i & 1) == 0) {
                continue;
            }
            if (passed == k) {
                return i;
            }
            passed++;
        }
        return NONE;
    }

    public int log(int lives) {
        if (lives != 0 && lives != 1) {
            return -1000;
        }
        boolean read = log.read(takeTape());
        latestFault = reader.fault;
        if (!read) {
            return -2 - reader.place;
        }
        trial.copyFrom(her);
        int wrong = log.live(trial);
        // Of a LOG without a LINE that could be done nothing was lived: there is nothing to undo.
        if (lives == 1 && log.right > 0) {
            keepTrial();
        }
        return wrong;
    }

    public int logged(int what) {
        if (!log.judged) {
            return NONE;
        }
        switch (what) {
            case 0:
                return log.why;
            case 1:
                return log.right;
            case 2:
                return log.day;
            case 3:
                return log.caught ? 1 : 0;
            default:
                return NONE;
        }
    }

    // ---- what is told of the sea

    public int count(int what) {
        if (what >= PORT && what <= MAN) {
            return sea.many[what];
        }
        if (what == 6) {
            return sea.parrot;
        }
        return what == 7 ? tapeSize : NONE;
    }

    public int port(int p, int what) throws NoSuchElementException {
        if (!sea.has(PORT, p) || what < 0 || what > 5) {
            throw new NoSuchElementException();
        }
        switch (what) {
            case 0:
                return her.namesKnownAt(p);
            case 1:
                return sea.wantedAt(p);
            case 2:
                return her.came[p];
            case 3:
                return sea.rainsAt(p, her.day) ? 1 : 0;
            case 4:
                return sea.waysFrom(p);
            default:
                return sea.mailsTo(p);
        }
    }

    public int way(int p, int q) {
        return sea.hasPorts(p, q) ? orNone(sea.ways[p * ROW + q]) : NONE;
    }

    public int mail(int p, int q) {
        return sea.hasPorts(p, q) ? orNone(sea.mails[p * ROW + q]) : NONE;
    }

    private static int orNone(int days) {
        return days == 0 ? NONE : days;
    }

    private static int orNever(int days) {
        return days >= NEVER ? NONE : days;
    }

    public int price(int s, int p, int what) {
        if (!sea.has(SHIP, s) || !sea.has(PORT, p) || what < 0 || what > 1) {
            return NONE;
        }
        return what == 0 ? sea.wanted[s * ROW + p] : her.owedTo(s, p);
    }

    public int far(int p, int q) {
        return sea.hasPorts(p, q) ? orNever(sea.far[p * ROW + q]) : NONE;
    }

    public int hears(int p, int q) {
        return sea.hearsFrom(p, q) ? sea.post[p * ROW + q] : NONE;
    }

    public int names() {
        return allotment.fewest();
    }

    public int nameOf(int p) {
        if (!sea.has(PORT, p)) {
            return NONE;
        }
        allotment.fewest();
        return allotment.name[p];
    }

    public int register() {
        return register.fewest(takeTape());
    }

    public int needs(int s) {
        return sea.has(SHIP, s) ? sea.roles[s] : NONE;
    }

    public int over(int s, int t) {
        return sea.has(SHIP, s) && sea.has(SHIP, t) && s != t ? sea.shipOver(s, t) : NONE;
    }

    public int mixed(int k) {
        int pairs = 0;
        for (int s = 0; s < sea.many[SHIP]; s++) {
            for (int t = s + 1; t < sea.many[SHIP]; t++) {
                int third = sea.shipOver(s, t);
                if (third == NONE || third == s || third == t) {
                    continue;
                }
                if (pairs == k) {
                    return 10 * s + t;
                }
                pairs++;
            }
        }
        return k == NONE ? pairs : NONE;
    }

    public int net(int s) throws NoSuchElementException {
        if (!sea.has(SHIP, s)) {
            throw new NoSuchElementException();
        }
        int sum = 0;
        for (int p = 0; p < sea.many[PORT]; p++) {
            sum += her.owedTo(s, p) - sea.wanted[s * ROW + p];
        }
        return sum;
    }

    public int lasts(int n, int what) throws NoSuchElementException {
        if (n < 0 || n > LONGEST_LAST || what < 0 || what > 1) {
            throw new NoSuchElementException();
        }
        int silent = PARROT_OF - sea.parrot;
        int common = greatestDivisor(PARROT_OF, silent);
        // Powers of a fraction in least terms are in least terms.
        int root = common == 0 ? 0 : (what == 0 ? silent : PARROT_OF) / common;
        int power = 1;
        for (int i = 0; i < n; i++) {
            power *= root;
        }
        return power;
    }

    private static int greatestDivisor(int a, int b) {
        for (int d = a; d > 1; d--) {
            if (a % d == 0 && b % d == 0) {
                return d;
            }
        }
        return 1;
    }

    // ---- what is so now

    public int now(int what) {
        switch (what) {
            case 0:
                return her.day;
            case 1:
                return her.port;
            case 2:
                return her.name;
            case 3:
                return her.before;
            case 4:
                return her.coin;
            case 5:
                return her.caught ? 1 : 0;
            case 6:
                return her.had;
            case 7:
                return her.voyages;
            default:
                return NONE;
        }
    }

    public int man(int m) {
        return sea.has(MAN, m) ? her.skills[m] : NONE;
    }

    public int lacks(int s) {
        if (!sea.has(SHIP, s) || !her.hasMenFor(s)) {
            return NONE;
        }
        return her.lacking(sea.roles[s], her.allMen());
    }

    public int plays(int s, int k) {
        if (!sea.has(SHIP, s) || !her.hasMenFor(s)) {
            return NONE;
        }
        int role = bitAt(sea.roles[s], k);
        return role == NONE ? NONE : her.playerOf(role, sea.roles[s]);
    }

    public int knows(int p, int s) {
        return sea.has(PORT, p) && sea.has(SHIP, s) ? orNever(her.known[p * ROW + s]) : NONE;
    }

    public int first(int s) {
        if (!sea.has(SHIP, s)) {
            return NONE;
        }
        int best = NONE;
        int bestDay = NEVER;
        for (int p = 0; p < sea.many[PORT]; p++) {
            if (her.known[p * ROW + s] < bestDay) {
                best = p;
                bestDay = her.known[p * ROW + s];
            }
        }
        return best;
    }

    public int safe(int p) {
        return sea.has(PORT, p) && her.canSailTo(p) ? her.safeNamesTo(p) : NONE;
    }

    public int outruns(int p) {
        if (!sea.has(PORT, p) || !sea.isForHer() || her.farTo(p) >= NEVER) {
            return NONE;
        }
        return her.day + her.farTo(p) < her.known[p * ROW + her.name] ? 1 : 0;
    }

    public int soonest() {
        int goal = her.goal();
        return goal == NONE ? NONE : her.day + her.farTo(goal);
    }

    public int where() {
        return her.goal();
    }

    // ---- her acts

    public int paint(int s) {
        if (!sea.has(SHIP, s)) {
            return NONE;
        }
        trial.copyFrom(her);
        return keepIfDone(trial.paintAs(s));
    }

    public int sail(int p) {
        if (!sea.has(PORT, p)) {
            return NONE;
        }
        trial.copyFrom(her);
        return keepIfDone(trial.sailTo(p));
    }

    public int waits(int n) {
        if (n < 1 || n > LONGEST_WAIT) {
            return NONE;
        }
        trial.copyFrom(her);
        return keepIfDone(trial.waitFor(n));
    }

    public int takes() {
        trial.copyFrom(her);
        return keepIfDone(trial.takeOwed());
    }

    public int learn(int m, int r) {
        if (!sea.has(MAN, m) || !sea.has(ROLE, r)) {
            return NONE;
        }
        trial.copyFrom(her);
        return keepIfDone(trial.teach(m, r));
    }

    public int drawn(int n, int seed) {
        if (n < 1 || n > MOST_DRAWN || !sea.isForHer()) {
            return NONE;
        }
        trial.copyFrom(her);
        int tried = trial.drawVoyages(n, seed);
        if (tried > 0) {
            keepTrial();
        }
        return tried;
    }

    public int odds(int n, int seed) {
        if (n < 1 || n > MOST_SEEDS || !sea.isForHer()) {
            return NONE;
        }
        int free = 0;
        for (int i = 0; i < n; i++) {
            trial.copyFrom(her);
            trial.drawVoyages(ODDS_VOYAGES, seed + i);
            if (!trial.caught) {
                free++;
            }
        }
        return free;
    }

    private int keepIfDone(int why) {
        if (why == 0) {
            keepTrial();
        }
        return why;
    }

    /** The trial is what is so now; what was so ahead of it can be had again. */
    private void keepTrial() {
        if (pastCount >= MOST_UNDONE) {
            forgetOldest();
        }
        Ship spare = past[pastCount];
        past[pastCount] = her;
        her = trial;
        trial = spare;
        pastCount++;
    }

    private void forgetOldest() {
        Ship oldest = past[0];
        for (int i = 1; i < MOST_UNDONE; i++) {
            past[i - 1] = past[i];
        }
        past[MOST_UNDONE - 1] = oldest;
        pastCount = MOST_UNDONE - 1;
    }

    public int undo() {
        if (pastCount < 1) {
            return NONE;
        }
        pastCount--;
        Ship undone = her;
        her = past[pastCount];
        past[pastCount] = undone;
        return pastCount;
    }

    // ---- images

    public boolean image(int k) {
        if (k < 0 || k >= IMAGES) {
            return false;
        }
        if (images[k] == null) {
            images[k] = new Image();
        }
        Image kept = images[k];
        kept.sea.copyFrom(sea);
        kept.her.copyFrom(her);
        kept.sentence.copyFrom(sentence);
        return true;
    }

    public boolean restore(int k) {
        if (k < 0 || k >= IMAGES || images[k] == null) {
            return false;
        }
        Image kept = images[k];
        sea.copyFrom(kept.sea);
        her.copyFrom(kept.her);
        sentence.copyFrom(kept.sentence);
        pastCount = 0;
        return true;
    }

    private static final class Image {
        final Sea sea = new Sea();
        final Ship her = new Ship(sea);
        final Sentence sentence = new Sentence();
    }

    /** Reads a text on the tape TOKEN by TOKEN, one ahead, and keeps where and how it is at FAULT. */
    private static final class Reader {
        /** Sorts of TOKENS; a sign's sort is the sign. */
        static final int END = 0;
        static final int WORD = 1;
        static final int FIGURES = 2;
        static final int OTHER = 3;
        static final String SIGNS = ";<=>()";
        static final int LONGEST_WORD = 7;
        static final int LETTER_BITS = 5;
        /** Where a WORD's first letter is put, with six places below it. */
        static final int FIRST_LETTER = 30;
        static final int LONGEST_FIGURES = 3;

        final byte[] text;
        final long[] reserved = new long[WORD_COUNT];
        int size;
        /** No TOKEN begins here or behind. */
        int stop;
        int at;

        int sort;
        int start;
        /** A WORD, five bits a letter from the highest place on: longer and shorter ones compare place by place. */
        long word;
        /** Which of the told WORDS it is; NONE: a NAME, or no WORD. */
        int key;
        int value;

        int fault;
        int place;

        Reader(byte[] text) {
            this.text = text;
            int which = 0;
            int shift = FIRST_LETTER;
            for (int i = 0; i < WORDS.length() && which < WORD_COUNT; i++) {
                char sign = WORDS.charAt(i);
                if (sign == ' ') {
                    which++;
                    shift = FIRST_LETTER;
                } else {
                    reserved[which] |= (long) (sign - 'a' + 1) << shift;
                    shift -= LETTER_BITS;
                }
            }
        }

        void open(int bytes, int most) {
            size = Math.min(bytes, text.length);
            stop = Math.min(size, most);
            at = 0;
            fault = 0;
            place = 0;
            step();
        }

        /** Goes on to the next TOKEN. */
        void step() {
            while (at < stop && (text[at] == ' ' || text[at] == '\n')) {
                at++;
            }
            key = NONE;
            start = Math.min(at, stop);
            if (at >= stop) {
                sort = END;
                return;
            }
            int letters = readRun();
            int length = at - start;
            if (length == 0) {
                sort = SIGNS.indexOf((char) (text[at] & 255)) >= 0 ? text[at] : OTHER;
                at++;
            } else if (letters == length && length <= LONGEST_WORD) {
                sort = WORD;
                key = findReserved();
            } else {
                sort = letters == 0 && length <= LONGEST_FIGURES ? FIGURES : OTHER;
            }
        }

        /** Reads all small letters and digits that come: how many letters. */
        private int readRun() {
            int letters = 0;
            int shift = FIRST_LETTER;
            word = 0;
            value = 0;
            while (at < size) {
                int sign = text[at];
                if (sign >= 'a' && sign <= 'z') {
                    word |= shift < 0 ? 0 : (long) (sign - 'a' + 1) << shift;
                    shift -= LETTER_BITS;
                    letters++;
                } else if (sign >= '0' && sign <= '9') {
                    value = at - start < LONGEST_FIGURES ? value * 10 + sign - '0' : value;
                } else {
                    return letters;
                }
                at++;
            }
            return letters;
        }

        private int findReserved() {
            for (int i = 0; i < WORD_COUNT; i++) {
                if (reserved[i] == word) {
                    return i;
                }
            }
            return NONE;
        }

        /** The TOKEN that is ahead is at FAULT. */
        boolean refuse(int kind) {
            fault = kind;
            place = start;
            return false;
        }

        boolean isName() {
            return sort == WORD && key == NONE;
        }

        boolean passSign(char sign) {
            if (sort != sign) {
                return refuse(1);
            }
            step();
            return true;
        }

        /** The text ends here, and has no more bytes than it may. */
        boolean passEnd() {
            return sort == END && size == stop || refuse(1);
        }

        /** The number that a NAME ahead was told with, as one of a sort; NONE and a FAULT, if it is no such one. */
        int look(NameTable names, int ofSort) {
            if (!isName()) {
                refuse(1);
                return NONE;
            }
            int number = names.find(word, ofSort);
            if (number == NONE) {
                refuse(3);
            }
            return number;
        }

        int lookNumber(int low, int high) {
            if (sort != FIGURES) {
                refuse(1);
                return NONE;
            }
            if (value < low || value > high) {
                refuse(2);
                return NONE;
            }
            return value;
        }
    }

    /** The NAMES of a SEA, each with its sort (PORT, SHIP, ROLE, MAN) and its number there. */
    private static final class NameTable {
        final long[] word = new long[MOST_NAMES];
        final int[] sort = new int[MOST_NAMES];
        final int[] number = new int[MOST_NAMES];
        int size;

        boolean isTold(long sought) {
            for (int i = 0; i < size; i++) {
                if (word[i] == sought) {
                    return true;
                }
            }
            return false;
        }

        int find(long sought, int ofSort) {
            for (int i = 0; i < size; i++) {
                if (word[i] == sought && sort[i] == ofSort) {
                    return number[i];
                }
            }
            return NONE;
        }

        long wordOf(int ofSort, int itsNumber) {
            for (int i = 0; i < size; i++) {
                if (sort[i] == ofSort && number[i] == itsNumber) {
                    return word[i];
                }
            }
            return 0;
        }

        void add(long newWord, int ofSort, int itsNumber) {
            if (size >= MOST_NAMES) {
                return;
            }
            word[size] = newWord;
            sort[size] = ofSort;
            number[size] = itsNumber;
            size++;
        }

        void copyFrom(NameTable other) {
            System.arraycopy(other.word, 0, word, 0, MOST_NAMES);
            System.arraycopy(other.sort, 0, sort, 0, MOST_NAMES);
            System.arraycopy(other.number, 0, number, 0, MOST_NAMES);
            size = other.size;
        }
    }

    /** What a SEA's text tells, and what follows from it alone. Tables have a row of ROW for each first one. */
    private static final class Sea {
        final NameTable names = new NameTable();
        /** How many of PORT .. RAIN. */
        final int[] many = new int[RAIN + 1];
        int parrot;
        final int[] ways = new int[TABLE];
        final int[] mails = new int[TABLE];
        final int[] wanted = new int[TABLE];
        final int[] owed = new int[TABLE];
        final int[] needed = new int[TABLE];
        /** ROLES that each MAN knows at first, as bits. */
        final int[] skills = new int[ROW];
        /** 100 times the PORT and the DAY. */
        final int[] rains = new int[16];

        /** ROLES that each SHIP needs, as bits. */
        final int[] roles = new int[ROW];
        final int[] far = new int[TABLE];
        /** DAYS by rows of mails, 0 to oneself. */
        final int[] post = new int[TABLE];

        void clear() {
            names.size = 0;
            Arrays.fill(many, 0);
            parrot = 0;
            Arrays.fill(ways, 0);
            Arrays.fill(mails, 0);
            Arrays.fill(wanted, 0);
            Arrays.fill(owed, 0);
            Arrays.fill(needed, 0);
            Arrays.fill(skills, 0);
        }

        void copyFrom(Sea other) {
            names.copyFrom(other.names);
            System.arraycopy(other.many, 0, many, 0, many.length);
            parrot = other.parrot;
            System.arraycopy(other.ways, 0, ways, 0, TABLE);
            System.arraycopy(other.mails, 0, mails, 0, TABLE);
            System.arraycopy(other.wanted, 0, wanted, 0, TABLE);
            System.arraycopy(other.owed, 0, owed, 0, TABLE);
            System.arraycopy(other.needed, 0, needed, 0, TABLE);
            System.arraycopy(other.skills, 0, skills, 0, ROW);
            System.arraycopy(other.rains, 0, rains, 0, rains.length);
            System.arraycopy(other.roles, 0, roles, 0, ROW);
            System.arraycopy(other.far, 0, far, 0, TABLE);
            System.arraycopy(other.post, 0, post, 0, TABLE);
        }

        /** Works out what follows from the lines, when all are read. */
        void conclude() {
            shortest(ways, far);
            shortest(mails, post);
            for (int s = 0; s < ROW; s++) {
                roles[s] = 0;
                for (int r = 0; r < ROW; r++) {
                    roles[s] |= needed[s * ROW + r] << r;
                }
            }
        }

        private void shortest(int[] steps, int[] sums) {
            int ports = many[PORT];
            for (int i = 0; i < TABLE; i++) {
                sums[i] = steps[i] == 0 ? NEVER : steps[i];
            }
            for (int p = 0; p < ports; p++) {
                sums[p * ROW + p] = 0;
            }
            for (int by = 0; by < ports; by++) {
                for (int p = 0; p < ports; p++) {
                    for (int q = 0; q < ports; q++) {
                        int sum = sums[p * ROW + by] + sums[by * ROW + q];
                        sums[p * ROW + q] = Math.min(sums[p * ROW + q], sum);
                    }
                }
            }
        }

        boolean has(int sort, int number) {
            return number >= 0 && number < many[sort];
        }

        boolean hasPorts(int p, int q) {
            return has(PORT, p) && has(PORT, q);
        }

        boolean isForHer() {
            return many[PORT] > 0 && many[SHIP] > 0;
        }

        /** Whether there is a row of mails from p to another, q. */
        boolean hearsFrom(int p, int q) {
            return hasPorts(p, q) && p != q && post[p * ROW + q] < NEVER;
        }

        boolean rainsAt(int p, int day) {
            int sought = p * 100 + day % 100;
            for (int i = 0; i < many[RAIN]; i++) {
                if (rains[i] == sought) {
                    return true;
                }
            }
            return false;
        }

        int wantedAt(int p) {
            int bits = 0;
            for (int s = 0; s < many[SHIP]; s++) {
                if (wanted[s * ROW + p] > 0) {
                    bits |= 1 << s;
                }
            }
            return bits;
        }

        int wantedForAt(int p) {
            int sum = 0;
            for (int s = 0; s < many[SHIP]; s++) {
                sum += wanted[s * ROW + p];
            }
            return sum;
        }

        int waysFrom(int p) {
            int bits = 0;
            for (int q = 0; q < many[PORT]; q++) {
                if (ways[p * ROW + q] > 0) {
                    bits |= 1 << q;
                }
            }
            return bits;
        }

        int mailsTo(int p) {
            int bits = 0;
            for (int q = 0; q < many[PORT]; q++) {
                if (mails[q * ROW + p] > 0) {
                    bits |= 1 << q;
                }
            }
            return bits;
        }

        /** The SHIP whose name comes of one name painted over another. */
        int shipOver(int s, int t) {
            long one = names.wordOf(SHIP, s);
            long other = names.wordOf(SHIP, t);
            long mix = 0;
            for (int shift = Reader.FIRST_LETTER; shift >= 0; shift -= Reader.LETTER_BITS) {
                // A place without a letter is 0, below all letters: the other's letter stays.
                mix |= Math.max(one >> shift & 31, other >> shift & 31) << shift;
            }
            return names.find(mix, SHIP);
        }
    }

    /** Reads a SEA into a draft. */
    private static final class SeaReader {
        final Reader reader;
        final Sea sea;
        boolean parrotTold;

        SeaReader(Reader reader, Sea sea) {
            this.reader = reader;
            this.sea = sea;
        }

        /** How many LINES; if there is a FAULT, the reader has it. */
        int read(int bytes) {
            reader.open(bytes, SEA_BYTES);
            sea.clear();
            parrotTold = false;
            int lines = 0;
            while (lines < SEA_BYTES && reader.sort != Reader.END) {
                if (!readLine()) {
                    return NONE;
                }
                lines++;
            }
            if (!reader.passEnd()) {
                return NONE;
            }
            sea.conclude();
            return lines;
        }

        private boolean readLine() {
            int key = reader.key;
            if (key < PORT || key > NEEDS) {
                return reader.refuse(1);
            }
            if (key <= RAIN && sea.many[key] >= MOST[key]) {
                return reader.refuse(4);
            }
            if (key == PARROT && parrotTold) {
                return reader.refuse(3);
            }
            reader.step();
            if (!readRest(key)) {
                return false;
            }
            if (key <= RAIN) {
                sea.many[key]++;
            }
            return reader.passSign(';');
        }

        private boolean readRest(int key) {
            switch (key) {
                case WAY:
                    return readPair(PORT, PORT, sea.ways, 20) && mirrorWays();
                case MAIL:
                    return readPair(PORT, PORT, sea.mails, 40);
                case WANTED:
                    return readPair(SHIP, PORT, sea.wanted, 250);
                case OWED:
                    return readPair(SHIP, PORT, sea.owed, 250);
                case NEEDS:
                    return readPair(SHIP, ROLE, sea.needed, 0);
                case RAIN:
                    return readRain();
                case PARROT:
                    return readParrot();
                case MAN:
                    return readName(key) && readSkills();
                default:
                    return readName(key);
            }
        }

        private boolean readName(int sort) {
            if (!reader.isName()) {
                return reader.refuse(1);
            }
            if (sea.names.isTold(reader.word)) {
                return reader.refuse(3);
            }
            sea.names.add(reader.word, sort, sea.many[sort]);
            reader.step();
            return true;
        }

        private boolean readSkills() {
            int m = sea.many[MAN];
            // Each ROLE comes once: the seventh round can only end the line or refuse.
            for (int i = 0; i <= MOST[ROLE]; i++) {
                if (reader.sort == ';') {
                    return true;
                }
                int r = reader.look(sea.names, ROLE);
                if (r == NONE) {
                    return false;
                }
                if ((sea.skills[m] >> r & 1) != 0) {
                    return reader.refuse(3);
                }
                sea.skills[m] |= 1 << r;
                reader.step();
            }
            return reader.refuse(1);
        }

        /** Two that are told once together, and a number from 1 to most (0: none, 1 is put). */
        private boolean readPair(int firstSort, int secondSort, int[] table, int most) {
            int a = reader.look(sea.names, firstSort);
            if (a == NONE) {
                return false;
            }
            reader.step();
            int b = reader.look(sea.names, secondSort);
            if (b == NONE) {
                return false;
            }
            boolean alike = firstSort == secondSort && a == b;
            if (alike || table[a * ROW + b] != 0) {
                return reader.refuse(3);
            }
            reader.step();
            if (most == 0) {
                table[a * ROW + b] = 1;
                return true;
            }
            int number = reader.lookNumber(1, most);
            if (number == NONE) {
                return false;
            }
            table[a * ROW + b] = number;
            reader.step();
            return true;
        }

        private boolean mirrorWays() {
            for (int p = 0; p < ROW; p++) {
                for (int q = 0; q < ROW; q++) {
                    int days = Math.max(sea.ways[p * ROW + q], sea.ways[q * ROW + p]);
                    sea.ways[p * ROW + q] = days;
                }
            }
            return true;
        }

        private boolean readRain() {
            int p = reader.look(sea.names, PORT);
            if (p == NONE) {
                return false;
            }
            reader.step();
            int day = reader.lookNumber(0, 99);
            if (day == NONE) {
                return false;
            }
            if (sea.rainsAt(p, day)) {
                return reader.refuse(3);
            }
            sea.rains[sea.many[RAIN]] = p * 100 + day;
            reader.step();
            return true;
        }

        private boolean readParrot() {
            int number = reader.lookNumber(0, PARROT_OF);
            if (number == NONE) {
                return false;
            }
            sea.parrot = number;
            parrotTold = true;
            reader.step();
            return true;
        }
    }

    /** She, her crew and what the offices know, at one time. Her acts answer 0, or why they can't be done. */
    private static final class Ship {
        final Sea sea;
        int day;
        int port;
        int name;
        int before;
        int coin;
        boolean caught;
        int had;
        int voyages;
        final int[] came = new int[ROW];
        /** PORTS where what is owed to each SHIP is taken, as bits. */
        final int[] taken = new int[ROW];
        /** ROLES that each MAN knows, as bits. */
        final int[] skills = new int[ROW];
        /** The DAY from which on each PORT's office knows each SHIP, by letters too. */
        final int[] known = new int[TABLE];
        int seed;

        Ship(Sea sea) {
            this.sea = sea;
        }

        void start() {
            boolean there = sea.isForHer();
            day = 0;
            port = there ? 0 : NONE;
            name = there ? 0 : NONE;
            before = NONE;
            coin = 0;
            caught = false;
            had = there ? 1 : 0;
            voyages = 0;
            Arrays.fill(came, 0);
            Arrays.fill(taken, 0);
            System.arraycopy(sea.skills, 0, skills, 0, ROW);
            Arrays.fill(known, NEVER);
            for (int s = 0; s < sea.many[SHIP]; s++) {
                for (int p = 0; p < sea.many[PORT]; p++) {
                    if (sea.wanted[s * ROW + p] > 0) {
                        tell(p, s);
                    }
                }
            }
        }

        void copyFrom(Ship other) {
            day = other.day;
            port = other.port;
            name = other.name;
            before = other.before;
            coin = other.coin;
            caught = other.caught;
            had = other.had;
            voyages = other.voyages;
            System.arraycopy(other.came, 0, came, 0, ROW);
            System.arraycopy(other.taken, 0, taken, 0, ROW);
            System.arraycopy(other.skills, 0, skills, 0, ROW);
            System.arraycopy(other.known, 0, known, 0, TABLE);
        }

        /** An office knows a name from this DAY on, and its letters tell it on. */
        private void tell(int p, int s) {
            for (int q = 0; q < sea.many[PORT]; q++) {
                int from = day + sea.post[p * ROW + q];
                known[q * ROW + s] = Math.min(known[q * ROW + s], from);
            }
        }

        boolean canAct() {
            return sea.isForHer() && !caught;
        }

        private boolean isLate(int days) {
            return day + days > LAST_DAY;
        }

        int paintAs(int s) {
            if (!canAct()) {
                return 1;
            }
            if (name == s) {
                return 2;
            }
            if (lacking(sea.roles[s], allMen()) > 0) {
                return 3;
            }
            if (isLate(1)) {
                return LATE;
            }
            day++;
            before = name;
            name = s;
            had |= 1 << s;
            return 0;
        }

        int sailTo(int p) {
            if (!canAct()) {
                return 1;
            }
            int days = sea.ways[port * ROW + p];
            if (days == 0) {
                return 2;
            }
            if (isLate(days)) {
                return LATE;
            }
            day += days;
            port = p;
            came[p]++;
            voyages++;
            beSeen();
            return 0;
        }

        private void beSeen() {
            if (known[port * ROW + name] <= day) {
                caught = true;
                coin -= sea.wantedForAt(port);
            } else if (before != NONE && sea.rainsAt(port, day)) {
                tell(port, name);
                tell(port, before);
            }
        }

        int waitFor(int days) {
            if (!canAct()) {
                return 1;
            }
            if (isLate(days)) {
                return LATE;
            }
            day += days;
            return 0;
        }

        int takeOwed() {
            if (!canAct()) {
                return 1;
            }
            int sum = owedTo(name, port);
            if (sum == 0) {
                return 2;
            }
            coin += sum;
            taken[name] |= 1 << port;
            return 0;
        }

        int teach(int m, int r) {
            if (!canAct()) {
                return 1;
            }
            if ((skills[m] >> r & 1) != 0) {
                return 2;
            }
            if (isLate(3)) {
                return LATE;
            }
            day += 3;
            skills[m] |= 1 << r;
            return 0;
        }

        /** How many voyages were tried. */
        int drawVoyages(int n, int firstSeed) {
            seed = firstSeed;
            int tried = 0;
            while (tried < n && canAct()) {
                drawVoyage();
                tried++;
            }
            return tried;
        }

        private void drawVoyage() {
            if (draw(3) == 0) {
                paintAs(draw(sea.many[SHIP]));
            }
            int why = sailTo(draw(sea.many[PORT]));
            if (why == 0 && !caught && draw(PARROT_OF) < sea.parrot) {
                tell(port, name);
            }
        }

        private int draw(int n) {
            seed = seed * 1103515245 + 12345;
            return n < 1 ? 0 : (seed >>> 8) % n;
        }

        int owedTo(int s, int p) {
            return (taken[s] >> p & 1) != 0 ? 0 : sea.owed[s * ROW + p];
        }

        int allMen() {
            return (1 << sea.many[MAN]) - 1;
        }

        boolean hasMenFor(int s) {
            return Integer.bitCount(sea.roles[s]) <= sea.many[MAN];
        }

        /**
         * The fewest of these ROLES that must be learnt, if these MEN, one each, play them: by Hall's theorem the most by
         * which some of the ROLES outnumber the MEN who know one of them.
         */
        int lacking(int roles, int men) {
            int most = 0;
            for (int some = roles; some > 0; some = (some - 1) & roles) {
                most = Math.max(most, Integer.bitCount(some) - knowers(some, men));
            }
            return most;
        }

        private int knowers(int roles, int men) {
            int sum = 0;
            for (int m = 0; m < ROW; m++) {
                if ((men >> m & 1) != 0 && (skills[m] & roles) != 0) {
                    sum++;
                }
            }
            return sum;
        }

        /** Who plays a ROLE of these, when each in its turn is given to the first man by whom no more must be learnt. */
        int playerOf(int role, int roles) {
            int men = allMen();
            int rest = roles;
            int player = NONE;
            for (int r = 0; r <= role; r++) {
                if ((rest >> r & 1) == 0) {
                    continue;
                }
                player = firstFitting(r, rest, men);
                if (player == NONE) {
                    return NONE;
                }
                rest &= ~(1 << r);
                men &= ~(1 << player);
            }
            return player;
        }

        private int firstFitting(int r, int rest, int men) {
            int fewest = lacking(rest, men);
            for (int m = 0; m < ROW; m++) {
                if ((men >> m & 1) == 0) {
                    continue;
                }
                int learns = (skills[m] >> r & 1) == 0 ? 1 : 0;
                if (learns + lacking(rest & ~(1 << r), men & ~(1 << m)) == fewest) {
                    return m;
                }
            }
            return NONE;
        }

        boolean knowsNow(int p, int s) {
            return known[p * ROW + s] <= day;
        }

        int namesKnownAt(int p) {
            int bits = 0;
            for (int s = 0; s < sea.many[SHIP]; s++) {
                if (knowsNow(p, s)) {
                    bits |= 1 << s;
                }
            }
            return bits;
        }

        boolean canSailTo(int p) {
            return canAct() && sea.ways[port * ROW + p] > 0;
        }

        /** Names under which she would not be caught by the way to a PORT; only if she can sail there. */
        int safeNamesTo(int p) {
            int comes = day + sea.ways[port * ROW + p];
            int bits = 0;
            for (int s = 0; s < sea.many[SHIP]; s++) {
                if (known[p * ROW + s] > comes) {
                    bits |= 1 << s;
                }
            }
            return bits;
        }

        boolean isSafeTo(int p) {
            return canSailTo(p) && (safeNamesTo(p) >> name & 1) != 0;
        }

        boolean hasBeenAt(int p) {
            return sea.isForHer() && (p == 0 || came[p] > 0);
        }

        int farTo(int p) {
            return sea.isForHer() ? sea.far[port * ROW + p] : NEVER;
        }

        /** The PORT where she can soonest be, free, and something is owed to her name. */
        int goal() {
            if (!canAct()) {
                return NONE;
            }
            int best = NONE;
            int bestDay = NEVER;
            for (int p = 0; p < sea.many[PORT]; p++) {
                int comes = day + farTo(p);
                boolean free = p == port || comes < known[p * ROW + name];
                if (free && owedTo(name, p) > 0 && comes < bestDay) {
                    best = p;
                    bestDay = comes;
                }
            }
            return best;
        }
    }

    /** A LOG that was read, and how it was judged. */
    private static final class Log {
        final Reader reader;
        final NameTable names;
        final int[] act = new int[LOG_LINES];
        final int[] what = new int[LOG_LINES];
        final int[] who = new int[LOG_LINES];
        int lines;

        boolean judged;
        int why;
        int right;
        int day;
        boolean caught;

        Log(Reader reader, NameTable names) {
            this.reader = reader;
            this.names = names;
        }

        boolean read(int bytes) {
            reader.open(bytes, LOG_BYTES);
            lines = 0;
            // One round more than there may be LINES: it refuses a 41st.
            for (int i = 0; i <= LOG_LINES && reader.sort != Reader.END; i++) {
                if (!readLine()) {
                    return false;
                }
                lines++;
            }
            return reader.passEnd();
        }

        private boolean readLine() {
            int man = NONE;
            int key = reader.key;
            if (reader.isName()) {
                man = reader.look(names, MAN);
                if (man == NONE) {
                    return false;
                }
                key = LEARNS;
            } else if (key < SAILS || key > TAKES) {
                return reader.refuse(1);
            }
            if (lines >= LOG_LINES) {
                return reader.refuse(4);
            }
            reader.step();
            if (key == LEARNS && !passLearns()) {
                return false;
            }
            act[lines] = key;
            who[lines] = man;
            if (key != TAKES) {
                what[lines] = lookObject(key);
                if (what[lines] == NONE) {
                    return false;
                }
                reader.step();
            }
            return reader.passSign(';');
        }

        private boolean passLearns() {
            if (reader.key != LEARNS) {
                return reader.refuse(1);
            }
            reader.step();
            return true;
        }

        private int lookObject(int key) {
            switch (key) {
                case SAILS:
                    return reader.look(names, PORT);
                case PAINTS:
                    return reader.look(names, SHIP);
                case WAITS:
                    return reader.lookNumber(1, LONGEST_WAIT);
                default:
                    return reader.look(names, ROLE);
            }
        }

        /** Lives the LINES till one is WRONG: which; NONE: none. */
        int live(Ship her) {
            judged = true;
            why = 0;
            right = 0;
            while (right < lines && why == 0) {
                why = liveLine(her, right);
                if (why == 0) {
                    right++;
                }
            }
            day = her.day;
            caught = her.caught;
            return why == 0 ? NONE : right;
        }

        private int liveLine(Ship her, int line) {
            switch (act[line]) {
                case PAINTS:
                    return her.paintAs(what[line]);
                case SAILS:
                    return plus(10, her.sailTo(what[line]));
                case WAITS:
                    return plus(20, her.waitFor(what[line]));
                case TAKES:
                    return plus(30, her.takeOwed());
                default:
                    return plus(40, her.teach(who[line], what[line]));
            }
        }

        private static int plus(int ofSort, int reason) {
            return reason == 0 ? 0 : ofSort + reason;
        }
    }

    /** A SENTENCE as steps on a pile of sets of PORTS: each ONE puts a set, and 'not', 'and', 'or' join them. */
    private static final class Sentence {
        /** Each 'and', 'or' joins two ONES, so there are fewer of them than ONES. */
        static final int MOST_STEPS = 40;

        final int[] step = new int[MOST_STEPS];
        final int[] sign = new int[MOST_STEPS];
        final int[] value = new int[MOST_STEPS];
        int length;
        final int[] pile = new int[MOST_STEPS];

        void clear() {
            length = 0;
        }

        boolean isThere() {
            return length > 0;
        }

        void add(int newStep, int itsSign, int itsValue) {
            if (length >= MOST_STEPS) {
                return;
            }
            step[length] = newStep;
            sign[length] = itsSign;
            value[length] = itsValue;
            length++;
        }

        void copyFrom(Sentence other) {
            System.arraycopy(other.step, 0, step, 0, MOST_STEPS);
            System.arraycopy(other.sign, 0, sign, 0, MOST_STEPS);
            System.arraycopy(other.value, 0, value, 0, MOST_STEPS);
            length = other.length;
        }

        /** PORTS of which it may be said, as bits. */
        int portsFor(Ship her) {
            int all = (1 << her.sea.many[PORT]) - 1;
            int height = 0;
            for (int i = 0; i < length; i++) {
                if (step[i] == NOT && height >= 1) {
                    pile[height - 1] = all & ~pile[height - 1];
                } else if (step[i] == AND && height >= 2) {
                    height--;
                    pile[height - 1] &= pile[height];
                } else if (step[i] == OR && height >= 2) {
                    height--;
                    pile[height - 1] |= pile[height];
                } else {
                    pile[height] = portsOfStep(her, i);
                    height++;
                }
            }
            return pile[0];
        }

        private int portsOfStep(Ship her, int i) {
            int bits = 0;
            for (int p = 0; p < her.sea.many[PORT]; p++) {
                if (holds(her, i, p)) {
                    bits |= 1 << p;
                }
            }
            return bits;
        }

        private boolean holds(Ship her, int i, int p) {
            switch (step[i]) {
                case HERE:
                    return her.port == p;
                case BEEN:
                    return her.hasBeenAt(p);
                case SAFE:
                    return her.isSafeTo(p);
                case KNOWS:
                    return her.knowsNow(p, value[i]);
                case HEARS:
                    return her.sea.hearsFrom(value[i], p);
                case FAR:
                    return compares(her.farTo(p), i);
                case NAMES:
                    return compares(Integer.bitCount(her.namesKnownAt(p)), i);
                default:
                    return compares(p, i);
            }
        }

        private boolean compares(int number, int i) {
            if (sign[i] == '<') {
                return number < value[i];
            }
            return sign[i] == '>' ? number > value[i] : number == value[i];
        }
    }

    /** Reads a SENTENCE into a draft; a method's depth is how many ONES stand within one another there. */
    private static final class SentenceReader {
        final Reader reader;
        final NameTable names;
        final Sentence draft;
        int ones;

        SentenceReader(Reader reader, NameTable names, Sentence draft) {
            this.reader = reader;
            this.names = names;
            this.draft = draft;
        }

        /** How many ONES; if there is a FAULT, the reader has it. */
        int read(int bytes) {
            reader.open(bytes, SENTENCE_BYTES);
            draft.clear();
            ones = 0;
            return readCond(1) && reader.passEnd() ? ones : NONE;
        }

        private boolean readCond(int depth) {
            if (!readAll(depth)) {
                return false;
            }
            for (int i = 0; i < MOST_ONES && reader.key == OR; i++) {
                reader.step();
                if (!readAll(depth)) {
                    return false;
                }
                draft.add(OR, 0, 0);
            }
            return true;
        }

        private boolean readAll(int depth) {
            if (!readOne(depth)) {
                return false;
            }
            for (int i = 0; i < MOST_ONES && reader.key == AND; i++) {
                reader.step();
                if (!readOne(depth)) {
                    return false;
                }
                draft.add(AND, 0, 0);
            }
            return true;
        }

        private boolean readOne(int depth) {
            int key = reader.key;
            boolean bracket = reader.sort == '(';
            if (!bracket && (key < NOT || key > NUMBER)) {
                return reader.refuse(1);
            }
            if (ones >= MOST_ONES || depth > MOST_WITHIN) {
                return reader.refuse(4);
            }
            ones++;
            reader.step();
            if (bracket) {
                return readCond(depth + 1) && reader.passSign(')');
            }
            if (key != NOT) {
                return readPlain(key);
            }
            if (!readOne(depth + 1)) {
                return false;
            }
            draft.add(NOT, 0, 0);
            return true;
        }

        private boolean readPlain(int key) {
            int sign = 0;
            int value = 0;
            if (key == KNOWS) {
                value = reader.look(names, SHIP);
            } else if (key == HEARS) {
                value = reader.look(names, PORT);
            } else if (key >= FAR) {
                sign = reader.sort;
                if (sign != '<' && sign != '=' && sign != '>') {
                    return reader.refuse(1);
                }
                reader.step();
                value = reader.lookNumber(0, HIGHEST);
            }
            if (value == NONE) {
                return false;
            }
            if (key >= KNOWS) {
                reader.step();
            }
            draft.add(key, sign, value);
            return true;
        }
    }

    /** The fewest names for all PORTS. */
    private static final class Allotment {
        final Sea sea;
        final int[] name = new int[ROW];

        Allotment(Sea sea) {
            this.sea = sea;
        }

        /** How many; the first row of them by numbers is in name. */
        int fewest() {
            for (int most = 0; most < sea.many[PORT]; most++) {
                if (giveFrom(0, 0, most)) {
                    return most;
                }
            }
            giveFrom(0, 0, ROW);
            return sea.many[PORT];
        }

        /** Gives names to PORT p and those behind it; a new name is the next one, else a lesser row would do as well. */
        private boolean giveFrom(int p, int used, int most) {
            if (p >= sea.many[PORT]) {
                return true;
            }
            for (int n = 0; n <= used && n < most; n++) {
                if (!isFree(p, n)) {
                    continue;
                }
                name[p] = n;
                if (giveFrom(p + 1, Math.max(used, n + 1), most)) {
                    return true;
                }
            }
            return false;
        }

        private boolean isFree(int p, int n) {
            for (int q = 0; q < p; q++) {
                if (name[q] == n && (sea.hearsFrom(p, q) || sea.hearsFrom(q, p))) {
                    return false;
                }
            }
            return true;
        }
    }

    /** The fewest ships for pairs of a PORT and a DAY on the tape. */
    private static final class Register {
        final Sea sea;
        final byte[] tape;
        /** Of each pair, the others that no ship can have been seen at too, as bits. */
        final int[] apart = new int[MOST_PAIRS];

        Register(Sea sea, byte[] tape) {
            this.sea = sea;
            this.tape = tape;
        }

        int fewest(int bytes) {
            int pairs = bytes / 2;
            if (bytes % 2 != 0 || pairs < 2 || pairs > MOST_PAIRS) {
                return NONE;
            }
            for (int i = 0; i < pairs; i++) {
                if (!sea.has(PORT, tape[2 * i])) {
                    return NONE;
                }
            }
            for (int i = 0; i < pairs; i++) {
                apart[i] = findApart(i, pairs);
            }
            return mostApart(pairs);
        }

        private int findApart(int i, int pairs) {
            int bits = 0;
            for (int j = 0; j < pairs; j++) {
                int between = Math.abs((tape[2 * i + 1] & 255) - (tape[2 * j + 1] & 255));
                if (between < sea.far[tape[2 * i] * ROW + tape[2 * j]]) {
                    bits |= 1 << j;
                }
            }
            return bits;
        }

        /** By Dilworth's theorem as many ships are needed as there are pairs of which no two can be one ship's. */
        private int mostApart(int pairs) {
            int most = 0;
            for (int set = 1; set < 1 << pairs; set++) {
                int size = Integer.bitCount(set);
                if (size > most && areApart(set, pairs)) {
                    most = size;
                }
            }
            return most;
        }

        private boolean areApart(int set, int pairs) {
            for (int i = 0; i < pairs; i++) {
                int others = set & ~(1 << i);
                if ((set >> i & 1) != 0 && (others & ~apart[i]) != 0) {
                    return false;
                }
            }
            return true;
        }
    }
}
