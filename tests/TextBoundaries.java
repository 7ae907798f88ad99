import java.util.ArrayList;
import java.util.List;

/** The boundary cases of "Terms": TOKENS, texts and their FAULTS. */
final class TextBoundaries {
    private static final String[] TOLD = ("port way mail ship wanted owed role needs man rain parrot sails paints waits takes "
        + "learns or and not here been safe knows hears far names number").split(" ");
    private static final String[] EIGHT = {"a", "b", "c", "d", "e", "f", "g", "h"};
    private static final String[] SIX = {"a", "b", "c", "d", "e", "f"};
    private static final String AB = "port a;port b;";
    private static final String FORTY = "waits 1;".repeat(40);
    private static final String TWENTY = "here or ".repeat(19) + "here";

    private TextBoundaries() {
    }

    static void all() {
        blanks();
        words();
        numbers();
        signs();
        runs();
        seaBytes();
        seaLines();
        ways();
        mails();
        prices();
        needs();
        men();
        rains();
        parrots();
        names();
        limits();
        numbered();
        logBytes();
        logLines();
        logWaits();
        logActs();
        sentenceBytes();
        allAndOr();
        notAndBrackets();
        signsOfNumbers();
        here();
        been();
        safe();
        knowsByNow();
        hears();
        namesAndNumber();
        farAboveAll();
        onesAndWithin();
        saidOfPorts();
        firstFault();
        leastFault();
        noToken();
        atTheEnd();
        mostBytes();
        wrongNumbers();
        wrongNames();
        toldAgain();
        tooMany();
    }

    private static void blanks() {
        Doc.says("Terms", "TOKENS of all texts, with blanks (32, 10) between them or not");
        Texts.seaIs("port a;port b;way a b 3;", 3);
        Texts.seaIs("\n\nport\na\n;port b ;way a\n \nb  3 ; \n", 3);
        Texts.logIs("\nsails\nb\n;takes ;");
        Texts.sentenceIs("not(far<3)or(\nhere\n)", 5);
        for (int sign = 0; sign < 256; sign++) {
            boolean goesOn = sign >= 'a' && sign <= 'z' || sign >= '0' && sign <= '9';
            String text = "port" + (char) sign + "a;";
            if (sign == 32 || sign == 10) {
                Texts.seaIs(text, 1);
            } else {
                Texts.seaFault(text, 1, goesOn ? 0 : 4);
            }
        }
    }

    private static void words() {
        Doc.says("Terms", "WORDS: small letters, 1 to 7");
        Texts.seaIs("port a;port z;port zzzzzzz;port abcdefg;", 4);
        Texts.seaFault("port ^abcdefgh;", 1);
        Texts.seaFault("port ^;", 1);
        // Each of the seven letters counts, and how many there are.
        Texts.seaIs("port abcdefg;port abcdefh;port abcdef;port bbcdefg;ship abcdeg;ship a;ship aa;", 7);
        Texts.seaFault("port abcdefg;port ^abcdefg;", 3);
        // The signs beside a and z, and large letters.
        for (String sign : new String[] {"^`", "^{", "^A", "^Z", "a^B"}) {
            Texts.seaFault("port " + sign + ";", 1);
        }
    }

    private static void numbers() {
        Doc.says("Terms", "NUMBERS: 1 to 3 digits");
        Check.due("one digit", Texts.seaIs("parrot 9;", 1).count(6), 9);
        Check.due("three digits", Texts.seaIs("parrot 012;", 1).count(6), 12);
        Check.due("three digits", Texts.seaIs("parrot 000;", 1).count(6), 0);
        Texts.seaFault("parrot ^0009;", 1);
        Texts.seaFault("parrot ^;", 1);
        // The signs beside 0 and 9.
        Texts.seaFault("parrot ^/;", 1);
        Texts.seaFault("parrot ^:;", 1);
        Texts.seaFault("parrot ^-1;", 1);
        Texts.sentenceIs("far < 000 or far > 999", 2);
        Texts.sentenceFault("far < ^1000", 1);
        Texts.logFault("waits ^0001;", 1);
    }

    private static void signs() {
        Doc.says("Terms", "; < = > ( ) . (A WORD");
        for (char sign : "<=>().".toCharArray()) {
            Texts.seaFault("port a^" + sign, 1);
            Texts.logFault("takes^" + sign, 1);
        }
        for (char sign : ";<=>().".toCharArray()) {
            Texts.sentenceFault("here^" + sign, 1);
        }
        Texts.sentenceFault("far ^.3", 1);
        Texts.sentenceFault("far ^+3", 1);
    }

    private static void runs() {
        Doc.says("Terms", "A WORD, NUMBER goes on as long as small letters and digits do; what is not as told is no TOKEN.");
        Texts.seaFault("port ^a1;", 1);
        Texts.seaFault("port ^1a;", 1);
        Texts.seaFault("port ^abcdefg1;", 1);
        Texts.seaFault("parrot ^1a;", 1);
        Texts.seaFault("^parrot1;", 1);
        Texts.seaFault("^porta;", 1);
        Texts.seaFault(AB + "way a ^b3;", 1);
        Texts.sentenceFault("far<^3and here", 1);
        Texts.sentenceFault("far<3 ^andhere", 1);
    }

    private static void seaBytes() {
        Doc.says("Terms", "A SEA is a text of at most 900 bytes");
        Texts.seaIs(Texts.padded("port a;", 900), 1);
        Texts.seaIs(Texts.padded("port a;", 899), 1);
        Check.due("its last byte counts", Texts.seaIs(Texts.indented("port a;", 900), 1).count(0), 1);
        Texts.seaFault(Texts.padded("port a;", 901), 1, 900);
        Texts.seaFault(Texts.padded("port a;", 940), 1, 900);
        Texts.seaFault(Texts.indented("port a;", 901), 1, 900);
        Texts.seaFault(" ".repeat(901), 1, 900);
    }

    private static void seaLines() {
        Doc.says("Terms", "bytes: { LINE ; }. LINE: 'port' NAME");
        Texts.seaIs("", 0);
        Texts.seaIs(" \n", 0);
        Texts.seaIs("port a;", 1);
        Texts.seaFault("^;", 1);
        Texts.seaFault("port a;^;", 1);
        Texts.seaFault("port a^", 1);
        Texts.seaFault("port a ^port b;", 1);
        Texts.seaFault("port a ^b;", 1);
        Texts.seaFault("port^;", 1);
    }

    private static void ways() {
        Doc.says("Terms", "'way' PORT PORT DAYS (unlike; 1 to 20; each two once, in whichever order; both ways)");
        Texts.seaFault(AB + "way a ^a 3;", 3);
        Texts.seaFault(AB + "way b ^b 3;", 3);
        Texts.seaFault(AB + "way a b ^0;", 2);
        Texts.seaFault(AB + "way a b ^21;", 2);
        Texts.seaFault(AB + "way a b ^999;", 2);
        Texts.seaFault(AB + "way a b 3;way a ^b 3;", 3);
        Texts.seaFault(AB + "way a b 3;way b ^a 4;", 3);
        FalseName x = Texts.seaIs(AB + "port c;way a b 1;way c a 20;way b c 2;", 6);
        Check.due("1", x.way(0, 1), 1);
        Check.due("the other way", x.way(1, 0), 1);
        Check.due("20", x.way(2, 0), 20);
        Check.due("the other way", x.way(0, 2), 20);
    }

    private static void mails() {
        Doc.says("Terms",
            "'mail' PORT PORT DAYS (unlike; 1 to 40; from the first to the second; each two once in this order)");
        Texts.seaFault(AB + "mail a ^a 3;", 3);
        Texts.seaFault(AB + "mail a b ^0;", 2);
        Texts.seaFault(AB + "mail a b ^41;", 2);
        Texts.seaFault(AB + "mail a b 3;mail a ^b 4;", 3);
        FalseName x = Texts.seaIs(AB + "port c;mail a b 1;mail b a 40;mail c a 2;way a b 3;", 7);
        Check.due("1", x.mail(0, 1), 1);
        Check.due("40", x.mail(1, 0), 40);
        Check.due("from the first to the second", x.mail(2, 0), 2);
        Check.due("not back", x.mail(0, 2), -1);
        Texts.seaFault(AB + "mail a b 1;mail b a 1;mail b ^a 1;", 3);
    }

    private static void prices() {
        Doc.says("Terms", "'wanted' SHIP PORT N | 'owed' SHIP PORT N (1 to 250; each two once for each)");
        String start = AB + "ship s;ship t;";
        for (String word : new String[] {"wanted", "owed"}) {
            Texts.seaFault(start + word + " s a ^0;", 2);
            Texts.seaFault(start + word + " s a ^251;", 2);
            Texts.seaFault(start + word + " s a 250;" + word + " s ^a 1;", 3);
        }
        FalseName x = Texts.seaIs(start + "wanted s a 1;owed s a 250;wanted s b 250;owed s b 1;wanted t a 7;owed t a 8;", 10);
        int[][] want = {{1, 250, 7}, {250, 1, 8}};
        for (int what = 0; what < 2; what++) {
            Check.due("price(0, 0, " + what + ")", x.price(0, 0, what), want[what][0]);
            Check.due("price(0, 1, " + what + ")", x.price(0, 1, what), want[what][1]);
            Check.due("price(1, 0, " + what + ")", x.price(1, 0, what), want[what][2]);
        }
        // All SHIPS and PORTS, one LINE each: there is no other limit than the bytes.
        String all = Texts.lines("port", EIGHT) + Texts.lines("ship", "i", "j", "k", "l", "m", "n", "o", "p");
        StringBuilder owed = new StringBuilder(all);
        int lines = 16;
        for (char s = 'i'; s <= 'p' && owed.length() <= 888; s++) {
            for (char p = 'a'; p <= 'h' && owed.length() + 11 <= 900; p++) {
                owed.append("owed ").append(s).append(' ').append(p).append(" 1;");
                lines++;
            }
        }
        Texts.seaIs(owed.toString(), lines);
    }

    private static void needs() {
        Doc.says("Terms", "'needs' SHIP ROLE (each two once)");
        String start = "ship s;ship t;role q;role r;";
        Texts.seaFault(start + "needs s q;needs s ^q;", 3);
        Texts.seaFault(start + "needs s q ^1;", 1);
        Texts.seaFault(start + "needs s^;", 1);
        Check.due("both", Texts.seaIs(start + "needs s q;needs s r;needs t q;", 7).needs(0), 3);
    }

    private static void men() {
        Doc.says("Terms", "'man' NAME { ROLE } (those he knows, each once)");
        String roles = Texts.lines("role", SIX);
        Check.due("none", Texts.seaIs(roles + "man m;", 7).man(0), 0);
        Check.due("all six", Texts.seaIs(roles + "man m f e d c b a;", 7).man(0), 63);
        Check.due("the last alone", Texts.seaIs(roles + "man m f;", 7).man(0), 32);
        Texts.seaFault(roles + "man m a ^a;", 3);
        Texts.seaFault(roles + "man m a b ^a;", 3);
        Texts.seaFault(roles + "man m a b c d e f ^f;", 3);
        Texts.seaFault(roles + "man m a b c d e f^", 1);
        Check.due("each for himself", Texts.seaIs(roles + "man m a;man n a;", 8).man(1), 1);
        Texts.seaFault(roles + "man^;", 1);
    }

    private static void rains() {
        Doc.says("Terms", "'rain' PORT DAY (0 to 99; each two once)");
        Check.due("DAY 0", Texts.seaIs(AB + "rain a 0;", 3).port(0, 3), 1);
        Check.due("not at the other", Texts.seaIs(AB + "rain b 0;", 3).port(0, 3), 0);
        Texts.seaIs(AB + "rain a 99;rain b 99;rain a 98;rain b 0;", 6);
        Texts.seaFault(AB + "rain a ^100;", 2);
        Texts.seaFault(AB + "rain a ^999;", 2);
        Texts.seaFault(AB + "rain a 0;rain a ^0;", 3);
        Texts.seaFault(AB + "rain a 9;rain a ^09;", 3);
    }

    private static void parrots() {
        Doc.says("Terms", "'parrot' N (0 to 12; once; 0 without)");
        for (int n = 0; n <= 12; n++) {
            Check.due("parrot " + n, Texts.seaIs("parrot " + n + ";", 1).count(6), n);
        }
        Texts.seaFault("parrot ^13;", 2);
        Texts.seaFault("parrot 1;^parrot 1;", 3);
        Texts.seaFault("parrot 0;^parrot 0;", 3);
        FalseName x = Texts.seaIs("parrot 5;", 1);
        Check.due("sea()", Check.sea(x, "port a;"), 1);
        Check.due("without", x.count(6), 0);
    }

    private static void names() {
        Doc.says("Terms", "NAME: a WORD, none of those told here, in a LOG or a SENTENCE; told once.");
        String[] sorts = {"port", "ship", "role", "man"};
        for (String sort : sorts) {
            for (String word : TOLD) {
                Texts.seaFault(sort + " ^" + word + ";", 1);
                Texts.seaIs(sort + " x" + word.substring(1) + ";", 1);
            }
            for (String other : sorts) {
                Texts.seaFault(sort + " x;" + other + " ^x;", 3);
            }
        }
        Texts.seaIs("port ports;port por;port p;port sail;port days;port none;port all;port one;", 8);
    }

    /** How many there may be: all of them are taken, and one more is a FAULT. */
    private static void full(String start, int startLines, String head, int what, String more, String... tails) {
        String text = start + Texts.lines(head, tails);
        FalseName x = Texts.seaIs(text, startLines + tails.length);
        if (what >= 0) {
            Check.due("all of '" + head + "'", x.count(what), tails.length);
        }
        Texts.seaFault(text + "^" + head + " " + more + ";", 4);
    }

    /** All pairs of the eight, with DAYS. */
    private static List<String> pairs() {
        List<String> pairs = new ArrayList<>();
        for (String p : EIGHT) {
            for (String q : EIGHT) {
                if (p.compareTo(q) < 0) {
                    pairs.add(p + " " + q + " 7");
                }
            }
        }
        return pairs;
    }

    private static void limits() {
        Doc.says("Terms", "8 PORTS, 16 ways, 20 mails, 8 SHIPS, 6 ROLES, 8 MEN, 16 rains at most");
        String ports = Texts.lines("port", EIGHT);
        full("", 0, "port", 0, "i", EIGHT);
        full(ports, 8, "way", 1, pairs().get(16), pairs().subList(0, 16).toArray(new String[0]));
        full(ports, 8, "mail", 2, pairs().get(20), pairs().subList(0, 20).toArray(new String[0]));
        full("", 0, "ship", 3, "i", EIGHT);
        full("", 0, "role", 4, "g", SIX);
        full("", 0, "man", 5, "i", EIGHT);
        String[] days = new String[16];
        for (int i = 0; i < 16; i++) {
            days[i] = "a " + i;
        }
        full("port a;", 1, "rain", -1, "a 16", days);
        // All that there may be of all sorts of NAMES at once.
        FalseName x = Texts.seaIs(ports + Texts.lines("ship", "sa", "sb", "sc", "sd", "se", "sf", "sg", "sh")
            + Texts.lines("role", "ra", "rb", "rc", "rd", "re", "rf")
            + Texts.lines("man", "ma", "mb", "mc", "md", "me", "mf", "mg", "mh ra rf"), 30);
        Check.due("the first and the last of them", Check.log(x, "ma learns rf;mh learns re;paints sh;", 1), -1);
        Check.due("man(0)", x.man(0), 32);
        Check.due("man(7)", x.man(7), 49);
        Check.due("now(2)", x.now(2), 7);
    }

    private static void numbered() {
        Doc.says("Terms", "PORTS, SHIPS, ROLES, MEN numbered from 0 each.");
        FalseName x = Texts.seaIs("man m;role q;ship s;port a;port b;ship t;role r;man n;way a b 1;needs t r;", 10);
        Check.due("the second SHIP needs the second ROLE", x.needs(1), 2);
        Check.due("the first needs none", x.needs(0), 0);
        Check.due("the second MAN learns it", Check.log(x, "n learns r;paints t;sails b;", 1), -1);
        Check.due("the second MAN knows the second ROLE", x.man(1), 2);
        Check.due("she is the second SHIP", x.now(2), 1);
        Check.due("she is at the second PORT", x.now(1), 1);
    }

    private static void logBytes() {
        Doc.says("Terms", "A LOG is a text of at most 400 bytes");
        Texts.logIs(Texts.padded("waits 7;", 400));
        Check.due("its last byte counts", Texts.logIs(Texts.indented("waits 7;", 400)).logged(1), 1);
        Texts.logFault(Texts.padded("waits 7;", 401), 1, 400);
        Texts.logFault(Texts.indented("waits 7;", 401), 1, 400);
        Texts.logFault(" ".repeat(940), 1, 400);
    }

    private static void logLines() {
        Doc.says("Terms", "400 bytes: { LINE ; }, 40 at most");
        Check.due("none", Texts.logIs("").logged(1), 0);
        Check.due("nothing but blanks", Texts.logIs(" \n ").logged(1), 0);
        Check.due("40", Texts.logIs(FORTY).logged(1), 40);
        Check.due("40 and blanks", Texts.logIs(Texts.padded(FORTY, 400)).logged(1), 40);
        Texts.logFault(FORTY + "^waits 1;", 4);
        Texts.logFault(FORTY + "^takes;", 4);
        Texts.logFault("^;", 1);
        Texts.logFault("takes^", 1);
        Texts.logFault("takes ^takes;", 1);
    }

    private static void logWaits() {
        Doc.says("Terms", "'waits' N (1 to 60)");
        Check.due("1", Texts.logIs("waits 1;").logged(2), 1);
        Check.due("60", Texts.logIs("waits 60;").logged(2), 60);
        Texts.logFault("waits ^0;", 2);
        Texts.logFault("waits ^61;", 2);
        Texts.logFault("waits^;", 1);
    }

    private static void logActs() {
        Doc.says("Terms", "'sails' PORT | 'paints' SHIP | 'waits' N (1 to 60) | 'takes' | MAN 'learns' ROLE.");
        FalseName x = Texts.logIs("sails b;paints s;takes;m learns q;n learns r;waits 1;");
        Check.due("the second is WRONG", x.logged(0), 2);
        Texts.logFault("sails^;", 1);
        Texts.logFault("sails b ^c;", 1);
        Texts.logFault("paints^;", 1);
        Texts.logFault("paints s ^t;", 1);
        Texts.logFault("takes ^s;", 1);
        Texts.logFault("m^;", 1);
        Texts.logFault("m learns^;", 1);
        Texts.logFault("m learns q ^r;", 1);
        Texts.logFault("^learns q;", 1);
        Texts.logFault("^parrot 1;", 1);
        Texts.logFault("^here;", 1);
    }

    private static void sentenceBytes() {
        Doc.says("Terms", "A SENTENCE is a text of at most 200 bytes: COND");
        Texts.sentenceIs(Texts.padded("here", 200), 1);
        Texts.sentenceIs(Texts.indented("been", 200), 1);
        Texts.sentenceFault(Texts.padded("here", 201), 1, 200);
        Texts.sentenceFault(Texts.indented("here or been", 205), 1, 200);
        Texts.sentenceFault("^", 1);
        Texts.sentenceFault(" ^", 1);
        Texts.sentenceFault(" ".repeat(200), 1, 200);
        Texts.sentenceFault(" ".repeat(201), 1, 200);
    }

    private static int portsSaid(FalseName x, String text) {
        Check.due("sentence() of '" + text + "' has no FAULT", Check.sentence(x, text) > 0, true);
        int many = x.said(-1);
        int bits = 0;
        for (int k = 0; k < many; k++) {
            bits |= 1 << x.said(k);
        }
        return bits;
    }

    private static void allAndOr() {
        Doc.says("Terms", "COND: ALL { 'or' ALL }. ALL: ONE { 'and' ONE }.");
        FalseName x = Check.with(Texts.SEA);
        Check.due("one alone", portsSaid(x, "number < 2"), 3);
        Check.due("'and' ahead of 'or'", portsSaid(x, "number = 0 or number > 0 and number < 2"), 3);
        Check.due("'and' ahead of 'or'", portsSaid(x, "number > 0 and number < 2 or number = 0"), 3);
        Check.due("brackets ahead of both", portsSaid(x, "(number = 0 or number > 0) and number > 1"), 4);
        Check.due("'not' of the next ONE alone", portsSaid(x, "not number = 0 and number < 2"), 2);
        Check.due("'not' of a bracket", portsSaid(x, "not (number = 0 and number < 2)"), 6);
        String ten = "number > 0 and ".repeat(9) + "number > 0";
        Check.due("ten ALL", portsSaid(x, ten), 6);
        Check.due("twenty ALL", portsSaid(x, "been and ".repeat(19) + "here"), 1);
        Check.due("the twentieth counts", portsSaid(x, "been and ".repeat(19) + "safe"), 0);
        Check.due("twenty or", portsSaid(x, "been or ".repeat(19) + "safe"), 3);
    }

    private static void notAndBrackets() {
        Doc.says("Terms", "ONE: 'not' ONE | ( COND )");
        FalseName x = Check.with(Texts.SEA);
        Check.due("'not' of all", portsSaid(x, "not number < 3"), 0);
        Check.due("'not' of none", portsSaid(x, "not number > 2"), 7);
        Check.due("'not not'", portsSaid(x, "not not here"), 1);
        Check.due("seven times", portsSaid(x, "not ".repeat(7) + "here"), 6);
        Check.due("seven brackets", portsSaid(x, "(".repeat(7) + "here" + ")".repeat(7)), 1);
        Texts.sentenceFault("not^", 1);
        Texts.sentenceFault("(^)", 1);
        Texts.sentenceFault("(here^", 1);
        Texts.sentenceFault("((here)^", 1);
        Texts.sentenceFault("(here)^)", 1);
        Texts.sentenceFault("here ^not", 1);
    }

    private static void signsOfNumbers() {
        Doc.says("Terms", "( 'far' | 'names' | 'number' ) SIGN NUMBER");
        for (String word : new String[] {"far", "names", "number"}) {
            Texts.sentenceIs(word + "<0 or " + word + " = 999 or " + word + "\n>\n007", 3);
            Texts.sentenceFault(word + "^", 1);
            Texts.sentenceFault(word + " ^7", 1);
            Texts.sentenceFault(word + " ^( 7", 1);
            Texts.sentenceFault(word + " ^; 7", 1);
            Texts.sentenceFault(word + " < ^= 7", 1);
            Texts.sentenceFault(word + " < ^", 1);
            Texts.sentenceFault(word + " < ^x", 1);
            Texts.sentenceFault(word + " < ^1000", 1);
            Texts.sentenceFault(word + " < 7 ^8", 1);
        }
    }

    private static void here() {
        Doc.says("Terms", "'here' (she is there)");
        FalseName x = Check.with(Texts.SEA);
        Check.due("at the first PORT", portsSaid(x, "here"), 1);
        x.sail(1);
        Check.due("at the next", portsSaid(x, "here"), 2);
        Check.due("no sea for her", portsSaid(Check.with("port a;"), "here"), 0);
        Check.due("caught she is there", portsSaid(RuleBoundaries.caught(), "here"), 2);
    }

    private static void been() {
        Doc.says("Terms", "'been' (she was there at some time)");
        FalseName x = Check.with(Texts.SEA);
        Check.due("where she began", portsSaid(x, "been"), 1);
        x.sail(1);
        Check.due("there too", portsSaid(x, "been"), 3);
        x.sail(0);
        Check.due("and still", portsSaid(x, "been"), 3);
        Check.due("no sea for her", portsSaid(Check.with("port a;"), "been or here"), 0);
    }

    private static void safe() {
        Doc.says("Terms", "'safe' (she may come there now by a way, under the name that she has)");
        String text = "port a;port b;port c;port d;way a b 5;way b c 1;way a d 5;mail c b 5;mail c d 6;ship s;ship t;"
            + "wanted s c 9;";
        FalseName x = Check.with(text);
        Check.due("known on that DAY: not; a DAY later: safe; by two ways: not", portsSaid(x, "safe"), 8);
        x.paint(1);
        Check.due("under the other name", portsSaid(x, "safe"), 10);
        x.paint(0);
        Check.due("two DAYS later", portsSaid(x, "safe"), 0);
        x.sail(1);
        Check.due("caught", portsSaid(x, "safe"), 0);
        Check.due("no sea for her", portsSaid(Check.with("port a;port b;way a b 1;"), "safe"), 0);
    }

    private static void knowsByNow() {
        Doc.says("Terms", "'knows' SHIP (it does by now)");
        FalseName x = Check.with("port a;port b;mail a b 5;ship s;ship t;wanted t a 9;");
        Check.due("on DAY 0", portsSaid(x, "knows t"), 1);
        Check.due("the other", portsSaid(x, "knows s"), 0);
        x.waits(4);
        Check.due("a DAY ahead", x.said(-1), 0);
        Check.due("a DAY ahead", portsSaid(x, "knows t"), 1);
        x.waits(1);
        Check.due("by now", x.said(-1), 2);
    }

    private static void hears() {
        Doc.says("Terms", "'hears' PORT (there is a row of mails from that one to it)");
        FalseName x = Check.with("port a;port b;port c;port d;mail b a 40;mail a c 40;way a d 1;");
        Check.due("from the first of the row", portsSaid(x, "hears b"), 5);
        Check.due("from the second", portsSaid(x, "hears a"), 4);
        Check.due("from the last", portsSaid(x, "hears c"), 0);
        Check.due("without mails", portsSaid(x, "hears d"), 0);
    }

    private static void namesAndNumber() {
        Doc.says("Terms", "(DAYS by ways from where she is; how many names it knows by now; its number)");
        FalseName x = Check.with("port a;port b;mail a b 5;" + Texts.lines("ship", "i", "j", "k", "l", "m", "n", "o", "p")
            + Texts.lines("wanted", "i a 1", "j a 1", "k a 1", "l a 1", "m a 1", "n a 1", "o a 1", "p a 1"));
        Check.due("all eight", portsSaid(x, "names = 8"), 1);
        Check.due("not above", portsSaid(x, "names > 8"), 0);
        Check.due("not below", portsSaid(x, "names < 8"), 2);
        x.waits(4);
        Check.due("a DAY ahead", portsSaid(x, "names = 0"), 2);
        x.waits(1);
        Check.due("by now", portsSaid(x, "names > 7"), 3);
        Check.due("the first PORT is number 0", portsSaid(x, "number = 0"), 1);
        Check.due("number <", portsSaid(x, "number < 1"), 1);
        Check.due("number >", portsSaid(x, "number > 0"), 2);
        Check.due("no such number", portsSaid(x, "number > 1"), 0);
    }

    private static void farAboveAll() {
        Doc.says("Terms", "(FAR of what can't be reached is above all.)");
        FalseName x = Check.with(Texts.SEA);
        Check.due("above 999", portsSaid(x, "far > 999"), 4);
        Check.due("not 999", portsSaid(x, "far = 999"), 0);
        Check.due("not below it", portsSaid(x, "far < 999"), 3);
        Check.due("where she is: 0", portsSaid(x, "far = 0"), 1);
        Check.due("on the very DAYS", portsSaid(x, "far = 3"), 2);
        Check.due("not below them", portsSaid(x, "far < 3"), 1);
        Check.due("not above them", portsSaid(x, "far > 3"), 4);
    }

    private static void onesAndWithin() {
        Doc.says("Terms", "20 ONES, 8 within one another.");
        Texts.sentenceIs(TWENTY, 20);
        Texts.sentenceIs("(here)or ".repeat(9) + "not been", 20);
        Texts.sentenceFault(TWENTY + " or ^here", 4);
        Texts.sentenceFault("(here)or ".repeat(9) + "not(^been)", 4);
        Texts.sentenceIs("not ".repeat(7) + "here", 8);
        Texts.sentenceFault("not ".repeat(8) + "^here", 4);
        Texts.sentenceIs("(".repeat(7) + "here" + ")".repeat(7), 8);
        Texts.sentenceFault("(".repeat(8) + "^here" + ")".repeat(8), 4);
        Texts.sentenceIs("not(".repeat(3) + "not here" + ")".repeat(3), 8);
        Texts.sentenceFault("not(".repeat(4) + "^here" + ")".repeat(4), 4);
        // Beside one another is not within one another.
        Texts.sentenceIs("not not not here and not not not here or(((here and((here)))))", 15);
    }

    private static void saidOfPorts() {
        Doc.says("Terms", "It is said of PORTS.");
        Check.due("no PORTS", portsSaid(new FalseName(), "not here"), 0);
        Check.due("all eight", portsSaid(Check.with(Texts.lines("port", EIGHT)), "number < 8"), 255);
        Check.due("the eighth", portsSaid(Check.with(Texts.lines("port", EIGHT)), "number = 7"), 128);
        Check.due("'not' is said of PORTS alone", portsSaid(Check.with(Texts.SEA), "not number > 9"), 7);
    }

    private static void firstFault() {
        Doc.says("Terms", "FAULTS, the first along the text");
        Texts.seaFault("port a;port ^a;way a x 99;#", 3);
        Texts.seaFault("port a;way a ^x 99;port a;", 3);
        Texts.seaFault("port a;rain a ^100;#", 2);
        Texts.seaFault(AB + "way a ^a 21;", 3);
        Texts.seaFault(Texts.lines("port", EIGHT) + "^port A;", 4);
        Texts.logFault("waits ^61;sails x;", 2);
        Texts.logFault("sails ^x;waits 61;", 3);
        Texts.logFault(FORTY + "^waits 61;", 4);
        Texts.sentenceFault("knows ^a or #", 3);
    }

    private static void leastFault() {
        Doc.says("Terms", "of one TOKEN the least: 1 no TOKEN");
        // A 41st LINE that begins with what can't come, or with a NAME that is no MAN.
        Texts.logFault(FORTY + "^;", 1);
        Texts.logFault(FORTY + "^port", 1);
        Texts.logFault(FORTY + "^x", 3);
        Texts.logFault(FORTY + "^a", 3);
        Texts.logFault(FORTY + "^m", 4);
        // A 21st ONE, a ninth within that can't come.
        Texts.sentenceFault(TWENTY + " or ^a", 1);
        Texts.sentenceFault(TWENTY + " or ^)", 1);
        Texts.sentenceFault("(".repeat(8) + "^)", 1);
        Texts.sentenceFault("not ".repeat(8) + "^or", 1);
        // A told WORD is no NAME at all, so it is not one that was not told.
        Texts.seaFault("port a;way a ^port 3;", 1);
    }

    private static void noToken() {
        Doc.says("Terms", "1 no TOKEN, or one that can't come (at it;");
        Texts.seaFault("^#", 1);
        Texts.seaFault("\n ^#", 1);
        Texts.seaFault("^x;", 1);
        Texts.seaFault("^7;", 1);
        Texts.seaFault("^sails a;", 1);
        Texts.seaFault("^here;", 1);
        Texts.seaFault("port ^7;", 1);
        Texts.seaFault(AB + "way a b ^c;", 1);
        Texts.seaFault(AB + "way a ^3;", 1);
        Texts.seaFault(AB + "way ^3 a b;", 1);
        Texts.seaFault("port a;ship s;wanted s a^;", 1);
        Texts.seaFault("port a;rain a^;", 1);
        Texts.seaFault("parrot ^x;", 1);
        Texts.seaFault("port ^" + (char) 0, 1);
        Texts.seaFault("port ^" + (char) 225 + ";", 1);
        Texts.logFault("^port a;", 1);
        Texts.logFault("^learns q;", 1);
        Texts.logFault("m ^q;", 1);
        Texts.logFault("m learns^;", 1);
        Texts.logFault("m ^sails b;", 1);
        Texts.logFault("sails ^1;", 1);
        Texts.logFault("paints ^waits;", 1);
        Texts.logFault("takes ^b;", 1);
        Texts.sentenceFault("^a", 1);
        Texts.sentenceFault("^7", 1);
        Texts.sentenceFault("(^)", 1);
        Texts.sentenceFault("^and here", 1);
        Texts.sentenceFault("here and ^or been", 1);
        Texts.sentenceFault("here ^been", 1);
        Texts.sentenceFault("far ^3", 1);
        Texts.sentenceFault("far < ^a", 1);
        Texts.sentenceFault("knows ^1", 1);
        Texts.sentenceFault("hears ^here", 1);
    }

    private static void atTheEnd() {
        Doc.says("Terms", "the end: how many bytes there are;");
        String[] seas = {"port", "port ", "port a", "port a \n", "port a;way a", "port a;port b;way a b", "rain ",
            "port a;port b;way a b 3", "man", "role r;man m r", "parrot", "parrot 1"};
        for (String text : seas) {
            Texts.seaFault(text + "^", 1);
        }
        for (String text : new String[] {"sails", "sails b", "waits", "waits 1 ", "m", "m learns", "m learns r", "takes"}) {
            Texts.logFault(text + "^", 1);
        }
        String[] sentences = {"", "not", "here or", "here and ", "(", "(here", "far", "far <", "knows", "hears\n"};
        for (String text : sentences) {
            Texts.sentenceFault(text + "^", 1);
        }
    }

    private static void mostBytes() {
        Doc.says("Terms", "the most bytes told, if there are more and no FAULT is ahead: "
            + "TOKENS that begin ahead of it are read whole");
        Texts.seaFault(Texts.padded("port a", 905), 1, 900);
        Texts.seaFault(Texts.padded("port", 940), 1, 900);
        // The NAME begins at 899: read whole, it is a NAME, one too long, one with a digit, one told twice.
        Texts.seaFault(" ".repeat(894) + "port abcdefg;", 1, 900);
        Texts.seaFault(" ".repeat(894) + "port abcdefgh;", 1, 899);
        Texts.seaFault(" ".repeat(894) + "port abc1;", 1, 899);
        Texts.seaFault(Texts.padded("port abc;", 894) + "port abc;", 3, 899);
        Texts.seaFault(Texts.padded("port abc;", 894) + "port ab;", 1, 900);
        // What begins at 900 is not read.
        Texts.seaFault(Texts.padded("port abc;", 895) + "port abc;", 1, 900);
        Texts.seaFault(Texts.padded("port a;", 900) + "#", 1, 900);
        Texts.seaFault(Texts.padded("port a;", 899) + "#", 1, 899);
        Texts.seaFault(Texts.padded("parrot 1;", 892) + "parrot 13;", 3, 892);
        Texts.seaFault(Texts.padded("", 892) + "parrot 13;", 2, 899);
        Texts.seaFault(Texts.padded("", 892) + "parrot 1;", 1, 900);
        Texts.seaFault(Texts.padded("", 892) + "parrot 12;", 1, 900);
        Texts.logFault(Texts.padded("", 393) + "waits 61;", 2, 399);
        Texts.logFault(Texts.padded("", 393) + "waits 60;", 1, 400);
        Texts.logFault(Texts.padded("", 394) + "waits 61;", 1, 400);
        Texts.logFault(Texts.padded(FORTY, 399) + "takes;", 4, 399);
        Texts.logFault(Texts.padded(FORTY, 400) + "takes;", 1, 400);
        Texts.sentenceFault(Texts.padded("knows", 199) + "xyz", 3, 199);
        Texts.sentenceFault(Texts.padded("knows", 200) + "xyz", 1, 200);
        Texts.sentenceFault(Texts.padded(TWENTY + " or", 199) + "here", 4, 199);
        Texts.sentenceFault(Texts.padded(TWENTY, 198) + "or here", 1, 200);
    }

    private static void wrongNumbers() {
        Doc.says("Terms", "2 a NUMBER that is not as told (at it)");
        Texts.seaFault(AB + "way a b ^000;", 2);
        Texts.seaFault(AB + "way a b\n ^21 ;", 2);
        Texts.seaFault(AB + "mail a b ^999;", 2);
        Texts.seaFault("port a;ship s;wanted s a ^999;", 2);
        Texts.seaFault("port a;ship s;owed s a ^000;", 2);
        Texts.seaFault("port a;rain a ^100", 2);
        Texts.seaFault("parrot ^999", 2);
        Texts.logFault("waits ^000;", 2);
        Texts.logFault("waits ^999", 2);
        Texts.sentenceIs("far < 999 or names = 000 or number > 999", 3);
    }

    private static void wrongNames() {
        Doc.says("Terms", "3 a NAME told twice, not told, or of another sort, two alike");
        Texts.seaFault("port a;port ^a;", 3);
        Texts.seaFault("port a;man ^a;", 3);
        Texts.seaFault("way ^a b 3;", 3);
        Texts.seaFault("port a;way a ^b 3;port b;", 3);
        Texts.seaFault("role r;man m ^x;", 3);
        Texts.seaFault("man m ^r;role r;", 3);
        Texts.seaFault("role r;man m ^m;", 3);
        String start = "port a;ship s;role r;man m;";
        String[] heads = {"way ", "mail ", "wanted ", "owed ", "needs ", "rain "};
        for (String head : heads) {
            String right = head.equals("way ") || head.equals("mail ") || head.equals("rain ") ? "a" : "s";
            for (String name : new String[] {"a", "s", "r", "m", "x"}) {
                if (!name.equals(right)) {
                    Texts.seaFault(start + head + "^" + name, 3);
                }
            }
        }
        for (String head : new String[] {"wanted s ", "owed s ", "needs s "}) {
            String right = head.equals("needs s ") ? "r" : "a";
            for (String name : new String[] {"a", "s", "r", "m", "x"}) {
                if (!name.equals(right)) {
                    Texts.seaFault(start + head + "^" + name, 3);
                }
            }
        }
        Texts.seaFault("port a;way a ^a 3;", 3);
        Texts.seaFault("port a;mail a ^a 3;", 3);
        Texts.logFault("sails ^x;", 3);
        Texts.logFault("sails ^s;", 3);
        Texts.logFault("paints ^a;", 3);
        Texts.logFault("m learns ^n;", 3);
        Texts.logFault("^x learns q;", 3);
        Texts.logFault("^q learns q;", 3);
        Texts.sentenceFault("knows ^a", 3);
        Texts.sentenceFault("knows ^x", 3);
        Texts.sentenceFault("hears ^s", 3);
        Texts.sentenceFault("hears ^x", 3);
        // Behind 'and', 'or', 'not' and within brackets too.
        Texts.sentenceFault("here and knows ^a", 3);
        Texts.sentenceFault("here or knows ^a", 3);
        Texts.sentenceFault("not knows ^a and here", 3);
        Texts.sentenceFault("((here) or(been and hears ^s))", 3);
    }

    private static void toldAgain() {
        Doc.says("Terms",
            "or what is told once of two told again (at the second; of 'rain' at DAY), 'parrot' told again (at it)");
        Texts.seaFault(AB + "way a b 3;way b  ^a 99;", 3);
        Texts.seaFault(AB + "mail a b 3;mail a\n^b 99;", 3);
        Texts.seaFault("port a;ship s;wanted s a 1;wanted s ^a 999;", 3);
        Texts.seaFault("port a;ship s;owed s a 1;owed s ^a 999;", 3);
        Texts.seaFault("ship s;role r;needs s r;needs s ^r;", 3);
        Texts.seaFault("role r;man m r ^r;", 3);
        Texts.seaFault("port a;rain a 5;rain a ^5;", 3);
        Texts.seaFault("parrot 1;^parrot", 3);
        Texts.seaFault("parrot 1;^parrot 13;", 3);
    }

    private static void tooMany() {
        Doc.says("Terms", "4 one more than there may be of a sort, a 41st LINE of a LOG (at the LINE's first WORD), "
            + "a 21st ONE, a ninth within (at its first TOKEN)");
        String[][] sorts = {EIGHT, EIGHT, SIX, EIGHT};
        String[] heads = {"port", "ship", "role", "man"};
        for (int i = 0; i < heads.length; i++) {
            String text = Texts.lines(heads[i], sorts[i]);
            // Whatever follows the WORD: a NAME told twice, no NAME, nothing.
            for (String tail : new String[] {" a;", " 7;", ""}) {
                Texts.seaFault(text + "\n^" + heads[i] + tail, 4);
            }
            Texts.seaIs(text + "parrot 1;", sorts[i].length + 1);
        }
        Texts.logFault(FORTY + "\n^waits", 4);
        Texts.logFault(FORTY + "^sails x;", 4);
        Texts.logFault(FORTY + " ^m x", 4);
        Texts.sentenceFault(TWENTY + " or ^(", 4);
        Texts.sentenceFault(TWENTY + " or ^far", 4);
        Texts.sentenceFault("not ".repeat(8) + " ^( here )", 4);
        Texts.sentenceFault("(".repeat(8) + " ^not", 4);
        Texts.sentenceFault("((((((((^far", 4);
    }
}
