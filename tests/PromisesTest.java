import java.util.Arrays;

/** For each promise: ordinary calls, the edges that the document names, and wrong arguments. */
public final class PromisesTest {
    /** 0 rome, 1 bari, 2 oran, 3 acre; 0 ad, 1 ba, 2 bd; 0 cook, 1 mate; 0 tom, 1 tim. */
    private static final String SEA = "port rome;port bari;port oran;port acre;way rome bari 3;way bari oran 5;"
        + "way rome oran 9;mail bari oran 2;mail oran rome 4;ship ad;ship ba;ship bd;wanted ba bari 20;owed ad oran 50;"
        + "owed ba rome 30;role cook;role mate;needs ba cook;needs bd cook;needs bd mate;man tom cook;man tim cook;"
        + "rain oran 12;rain bari 4;parrot 4;";

    public static void main(String[] args) {
        newObject();
        tape();
        seaText();
        seaFaults();
        seaLimits();
        seaLength();
        ports();
        waysMailsPrices();
        now();
        paint();
        sail();
        rain();
        waitsAndTakes();
        learn();
        undo();
        knowsAndFirst();
        farAndHears();
        safeAndOutruns();
        names();
        register();
        crew();
        over();
        netAndLasts();
        soonest();
        drawn();
        odds();
        logFaults();
        logJudged();
        logged();
        sentenceFaults();
        said();
        images();
        Check.end("PromisesTest");
    }

    private static void due(String call, long got, long want) {
        Check.due(call, got, want);
    }

    private static void due(String call, boolean got, boolean want) {
        Check.due(call, got, want);
    }

    private static FalseName big() {
        return Check.with(SEA);
    }

    // Promise 1
    private static void newObject() {
        FalseName x = new FalseName();
        for (int what = 0; what <= 7; what++) {
            due("new: count(" + what + ")", x.count(what), 0);
        }
        int[] now = {0, -1, -1, -1, 0, 0, 0, 0};
        for (int what = 0; what <= 7; what++) {
            due("new: now(" + what + ")", x.now(what), now[what]);
        }
        due("new: fault()", x.fault(), 0);
        for (int what = -1; what <= 4; what++) {
            due("new: logged(" + what + ")", x.logged(what), -1);
        }
        due("new: sea()", x.sea(), 0);
        due("new: sentence()", x.sentence(), -1);
        due("new: fault()", x.fault(), 1);
        due("NONE", FalseName.NONE, -1);
    }

    // Promises 2, 3, 44
    private static void tape() {
        FalseName x = new FalseName();
        for (int i = 1; i <= 47; i++) {
            due("feed " + i, x.feed(i, -1, 0, Integer.MIN_VALUE, Integer.MAX_VALUE), 20 * i);
        }
        due("feed 48", x.feed(0, 0, 0, 0, 0), -1);
        due("count(7)", x.count(7), 940);
        due("end(941)", x.end(941), false);
        due("end(-1)", x.end(-1), false);
        due("end(MIN)", x.end(Integer.MIN_VALUE), false);
        due("end(940)", x.end(940), true);
        due("end(921)", x.end(921), true);
        due("feed above 940", x.feed(0, 0, 0, 0, 0), -1);
        due("count(7)", x.count(7), 921);
        due("end(920)", x.end(920), true);
        due("feed to 940", x.feed(0, 0, 0, 0, 0), 940);
        due("end(0)", x.end(0), true);
        due("end(1)", x.end(1), false);
        // The highest byte is the first: "port a;" and blanks.
        x.feed(0x706f7274, 0x20613b20, 0x20202020, 0x0a0a0a0a, 0x20202020);
        due("sea()", x.sea(), 1);
        due("count(7)", x.count(7), 0);
        due("count(0)", x.count(0), 1);
        due("count(-1)", x.count(-1), -1);
        due("count(8)", x.count(8), -1);
        FalseName y = big();
        int[] many = {4, 3, 2, 3, 2, 2, 4, 0};
        for (int what = 0; what <= 7; what++) {
            due("count(" + what + ")", y.count(what), many[what]);
        }
    }

    // Promises 4, 5
    private static void seaText() {
        FalseName x = new FalseName();
        due("sea without blanks", Check.sea(x, "port a;port b;way a b 007;"), 3);
        due("way", x.way(0, 1), 7);
        due("sea with blanks", Check.sea(x, "\n port\na ;port  b\n;way a\nb 20 ; parrot 0;\n\n"), 4);
        due("way", x.way(1, 0), 20);
        due("all sorts", Check.sea(x, "port a;ship s;role r;needs s r;man m r;rain a 0;wanted s a 1;owed s a 1;parrot 5;"), 9);
        due("nothing of it stays", Check.sea(x, "port a;port b;ship s;role r;man m;"), 5);
        due("no needs", x.needs(0), 0);
        due("no roles", x.man(0), 0);
        due("no rain", x.port(0, 3), 0);
        due("not wanted", x.price(0, 0, 0), 0);
        due("not known", x.knows(0, 0), -1);
        due("not owed", x.price(0, 0, 1), 0);
        due("no parrot", x.count(6), 0);
        due("no way", x.way(0, 1), -1);
        due("sea of nothing but blanks", Check.sea(x, " \n "), 0);
        due("count(0)", x.count(0), 0);
        FalseName y = big();
        y.sail(1);
        Check.sentence(y, "here");
        due("a faulty sea", Check.sea(y, "port a"), -7);
        due("fault()", y.fault(), 1);
        due("the sea stays", y.count(0), 4);
        due("her state stays", y.now(0), 3);
        due("the sentence stays", y.said(0), 1);
        due("a new sea", Check.sea(y, SEA), 25);
        due("fault()", y.fault(), 0);
        due("day 0", y.now(0), 0);
        due("no sentence", y.said(-1), -1);
        due("nothing can be undone", y.undo(), -1);
        String prison = "port a;port b;way a b 1;ship s;ship t;owed t a 5;wanted s b 3;";
        FalseName z = Check.with(prison);
        z.paint(1);
        z.takes();
        z.paint(0);
        z.sail(1);
        nowIs(z, 3, 1, 0, 1, 2, 1, 3, 1);
        due("a new sea", Check.sea(z, prison), 7);
        nowIs(z, 0, 0, 0, -1, 0, 0, 1, 0);
        due("she came nowhere", z.port(1, 2), 0);
        due("nothing is taken", z.price(1, 0, 1), 5);
        FalseName able = Check.with(lines("role", "a,b,c,d,e,f") + "man m f e d c b a;man n a;");
        due("a man of six roles", able.man(0), 63);
        due("a man of one", able.man(1), 1);
    }

    private static void seaFault(String text, int kind, int place) {
        FalseName x = new FalseName();
        due("sea() of " + text, Check.sea(x, text), -1 - place);
        due("fault() of " + text, x.fault(), kind);
    }

    private static void seaFaults() {
        seaFault("port a", 1, 6);
        seaFault("port a ", 1, 7);
        seaFault("port ", 1, 5);
        seaFault("port abcdefgh;", 1, 5);
        seaFault("port a1;", 1, 5);
        seaFault("port 1;", 1, 5);
        seaFault("port A;", 1, 5);
        seaFault("port\ta;", 1, 4);
        seaFault("port.a;", 1, 4);
        seaFault("port " + (char) 233 + ";", 1, 5);
        seaFault(";", 1, 0);
        seaFault("port a;;", 1, 7);
        seaFault("harbour a;", 1, 0);
        seaFault("sails a;", 1, 0);
        seaFault("port a;a;", 1, 7);
        for (String word : ("port way mail ship wanted owed role needs man rain parrot sails paints waits takes learns "
            + "or and not here been safe knows hears far names number").split(" ")) {
            seaFault("ship " + word + ";", 1, 5);
            seaFault("port a;way " + word + " a 1;", 1, 11);
        }
        seaFault("port a;ship a;", 3, 12);
        seaFault("port a;way b a 1;", 3, 11);
        seaFault("port a;ship b;way a b 1;", 3, 20);
        seaFault("port a;way a a 1;", 3, 13);
        seaFault("port a;port b;way a b x;", 1, 22);
        seaFault("port a;port b;way a b 0;", 2, 22);
        seaFault("port a;port b;way a b 21;", 2, 22);
        seaFault("port a;port b;way a b 1000;", 1, 22);
        seaFault("port a;port b;way a b 1 1;", 1, 24);
        seaFault("port a;port b;mail a a 1;", 3, 21);
        seaFault("port a;port b;mail a b 0;", 2, 23);
        seaFault("port a;port b;mail a b 41;", 2, 23);
        seaFault("port a;port b;mail a b 40;mail b a 1;mail a b 9;", 3, 44);
        seaFault("port a;ship s;wanted a s 1;", 3, 21);
        seaFault("port a;ship s;wanted s a 0;", 2, 25);
        seaFault("port a;ship s;wanted s a 251;", 2, 25);
        seaFault(lines("role", "a,b,c,d,e,f") + "man m a b c d e f a;", 3, 60);
        seaFault("port a;ship s;wanted s a 250;owed s a 250;wanted s a 1;", 3, 51);
        seaFault("port a;ship s;owed s a 251;", 2, 23);
        seaFault("ship s;role r;needs s r;needs s r;", 3, 32);
        seaFault("ship s;role r;needs s r 1;", 1, 24);
        seaFault("ship s;role r;needs r s;", 3, 20);
        seaFault("role r;man m r m;", 3, 15);
        seaFault("role r;man m r r;", 3, 15);
        seaFault("role r;man r;", 3, 11);
        seaFault("role r;man m 1;", 1, 13);
        seaFault("role r;man m role;", 1, 13);
        seaFault("role r;man m r", 1, 14);
        seaFault("port a;rain a 100;", 2, 14);
        seaFault("port a;rain a 99;rain a 0;rain a 99;", 3, 33);
        seaFault("parrot 13;", 2, 7);
        seaFault("parrot x;", 1, 7);
        seaFault("parrot 1;parrot 99;", 3, 9);
        // Of two FAULTS the first along the text.
        seaFault("port a;way a b 99;", 3, 13);
        seaFault("port a;port a;#", 3, 12);
        FalseName x = Check.with("port a;port b;mail a b 40;mail b a 1;");
        due("mails both ways", x.mail(1, 0), 1);
    }

    private static String lines(String head, String tails) {
        StringBuilder text = new StringBuilder();
        for (String tail : tails.split(",")) {
            text.append(head).append(' ').append(tail).append(';');
        }
        return text.toString();
    }

    private static void oneTooMany(String start, String head, String tails, String more, int most) {
        String full = start + lines(head, tails);
        FalseName x = new FalseName();
        due(most + " of " + head, Check.sea(x, full) >= most, true);
        seaFault(full + head + " " + more + ";", 4, full.length());
        seaFault(full + head + " ?", 4, full.length());
    }

    private static void seaLimits() {
        String ports = lines("port", "a,b,c,d,e,f,g,h");
        oneTooMany("", "port", "a,b,c,d,e,f,g,h", "i", 8);
        oneTooMany("", "ship", "a,b,c,d,e,f,g,h", "i", 8);
        oneTooMany("", "role", "a,b,c,d,e,f", "g", 6);
        oneTooMany("", "man", "a,b,c,d,e,f,g,h", "i", 8);
        StringBuilder pairs = new StringBuilder();
        int made = 0;
        for (char p = 'a'; p <= 'h'; p++) {
            for (char q = 'a'; q < p && made < 20; q++, made++) {
                pairs.append(made == 0 ? "" : ",").append(p).append(' ').append(q).append(" 5");
            }
        }
        String[] all = pairs.toString().split(",");
        oneTooMany(ports, "way", String.join(",", Arrays.copyOf(all, 16)), "h g 5", 16);
        oneTooMany(ports, "mail", String.join(",", all), "h g 5", 20);
        StringBuilder days = new StringBuilder("a 0");
        for (int d = 1; d < 16; d++) {
            days.append(",a ").append(d);
        }
        oneTooMany(ports, "rain", days.toString(), "a 16", 16);
        FalseName x = new FalseName();
        String manyNeeds = lines("ship", "a,b,c,d,e,f,g,h") + lines("role", "i,j,k,l,m,n");
        StringBuilder needs = new StringBuilder();
        for (char s = 'a'; s <= 'h'; s++) {
            for (char r = 'i'; r <= 'n'; r++) {
                needs.append("needs ").append(s).append(' ').append(r).append(';');
            }
        }
        String all30 = manyNeeds + lines("port", "pa,pb,pc,pd,pe,pf,pg,ph") + lines("man", "ma,mb,mc,md,me,mf,mg,mh");
        due("30 names", Check.sea(x, all30), 30);
        due("the last of them", Check.log(x, "mh learns n;", 1), -1);
        due("man(7)", x.man(7), 32);
        due("48 needs", Check.sea(x, manyNeeds + needs), 62);
        due("needs(7)", x.needs(7), 63);
    }

    private static String padded(String text, int size) {
        StringBuilder longer = new StringBuilder(text);
        while (longer.length() < size) {
            longer.append(' ');
        }
        return longer.toString();
    }

    private static void seaLength() {
        FalseName x = new FalseName();
        due("900 bytes", Check.sea(x, padded("port a;", 900)), 1);
        seaFault(padded("port a;", 901), 1, 900);
        seaFault(padded("port a;", 940), 1, 900);
        seaFault(padded("port a", 900), 1, 900);
        seaFault(padded("port a", 905), 1, 900);
        // TOKENS that begin ahead of byte 900 are read whole.
        seaFault(padded("", 893) + "port abcd;", 1, 900);
        seaFault(padded("", 894) + "port abcdefgh;", 1, 899);
        seaFault(padded("", 895) + "port a;", 1, 900);
        seaFault(padded("port abcde;", 894) + "port abcde;", 3, 899);
        seaFault(padded("port a;", 899) + "port1", 1, 899);
        seaFault(padded("port a;", 900) + "#", 1, 900);
        seaFault(padded("port a;", 899) + "##", 1, 899);
    }

    private static boolean portThrows(FalseName x, int p, int what) {
        return Check.throwsNoSuch(() -> x.port(p, what));
    }

    // Promise 6
    private static void ports() {
        FalseName x = big();
        int[][] want = {{0, 0, 0, 0, 6, 4}, {2, 2, 0, 0, 5, 0}, {0, 0, 0, 0, 3, 2}, {0, 0, 0, 0, 0, 0}};
        for (int p = 0; p < 4; p++) {
            for (int what = 0; what < 6; what++) {
                due("port(" + p + ", " + what + ")", x.port(p, what), want[p][what]);
            }
        }
        due("port(4, 0) throws", portThrows(x, 4, 0), true);
        due("port(-1, 0) throws", portThrows(x, -1, 0), true);
        due("port(0, 6) throws", portThrows(x, 0, 6), true);
        due("port(0, -1) throws", portThrows(x, 0, -1), true);
        x.waits(1);
        x.sail(1);
        due("day 4", x.now(0), 4);
        due("it rains at 1", x.port(1, 3), 1);
        due("it does not at 2", x.port(2, 3), 0);
        due("she came to 1", x.port(1, 2), 1);
        due("2 knows by now", x.port(2, 0), 2);
        due("0 not yet", x.port(0, 0), 0);
        x.sail(0);
        x.sail(1);
        due("she came to 1", x.port(1, 2), 2);
        due("she came back to 0", x.port(0, 2), 1);
        due("0 knows by now", x.port(0, 0), 2);
        x.waits(60);
        x.waits(34);
        due("day 104", x.now(0), 104);
        due("it rains each 100 days", x.port(1, 3), 1);
    }

    // Promises 7, 8, 9
    private static void waysMailsPrices() {
        FalseName x = big();
        due("way(0, 1)", x.way(0, 1), 3);
        due("way(1, 0)", x.way(1, 0), 3);
        due("way(2, 0)", x.way(2, 0), 9);
        due("way(0, 3)", x.way(0, 3), -1);
        due("way(0, 0)", x.way(0, 0), -1);
        due("way(0, 4)", x.way(0, 4), -1);
        due("way(-1, 0)", x.way(-1, 0), -1);
        due("mail(1, 2)", x.mail(1, 2), 2);
        due("mail(2, 1)", x.mail(2, 1), -1);
        due("mail(2, 0)", x.mail(2, 0), 4);
        due("mail(1, 1)", x.mail(1, 1), -1);
        due("mail(1, 8)", x.mail(1, 8), -1);
        due("mail(-1, 1)", x.mail(-1, 1), -1);
        due("price(1, 1, 0)", x.price(1, 1, 0), 20);
        due("price(1, 0, 0)", x.price(1, 0, 0), 0);
        due("price(0, 2, 1)", x.price(0, 2, 1), 50);
        due("price(0, 2, 0)", x.price(0, 2, 0), 0);
        due("price(0, 2, 2)", x.price(0, 2, 2), -1);
        due("price(0, 2, -1)", x.price(0, 2, -1), -1);
        due("price(3, 0, 0)", x.price(3, 0, 0), -1);
        due("price(0, 4, 0)", x.price(0, 4, 0), -1);
        due("price(-1, 0, 0)", x.price(-1, 0, 0), -1);
        x.sail(2);
        due("takes()", x.takes(), 0);
        due("taken: price(0, 2, 1)", x.price(0, 2, 1), 0);
    }

    private static void nowIs(FalseName x, int... want) {
        for (int what = 0; what < want.length; what++) {
            due("now(" + what + ")", x.now(what), want[what]);
        }
    }

    // Promise 10
    private static void now() {
        FalseName x = big();
        nowIs(x, 0, 0, 0, -1, 0, 0, 1, 0);
        due("now(8)", x.now(8), -1);
        due("now(-1)", x.now(-1), -1);
        x.paint(1);
        nowIs(x, 1, 0, 1, 0, 0, 0, 3, 0);
        x.paint(0);
        nowIs(x, 2, 0, 0, 1, 0, 0, 3, 0);
        x.sail(2);
        x.takes();
        nowIs(x, 11, 2, 0, 1, 50, 0, 3, 1);
        nowIs(Check.with("port a;rain a 0;"), 0, -1, -1, -1, 0, 0, 0, 0);
        nowIs(Check.with("ship a;"), 0, -1, -1, -1, 0, 0, 0, 0);
    }

    // Promise 11
    private static void paint() {
        FalseName x = big();
        due("paint(3)", x.paint(3), -1);
        due("paint(-1)", x.paint(-1), -1);
        due("paint(0)", x.paint(0), 2);
        due("paint(2)", x.paint(2), 3);
        due("day 0", x.now(0), 0);
        due("paint(1)", x.paint(1), 0);
        due("paint(1)", x.paint(1), 2);
        due("one day", x.now(0), 1);
        due("no ports", Check.with("ship a;ship b;").paint(1), 1);
        FalseName late = Check.with("port a;ship s;ship t;ship u;role r;needs u r;");
        waitTill(late, 999);
        due("late: paint(0)", late.paint(0), 2);
        due("late: paint(2)", late.paint(2), 3);
        due("late: paint(1)", late.paint(1), 9);
        due("late: day", late.now(0), 999);
        late.undo();
        late.waits(38);
        due("day 998", late.now(0), 998);
        due("to the last day", late.paint(1), 0);
        due("day 999", late.now(0), 999);
        FalseName caught = Check.with("port a;port b;way a b 1;ship s;ship t;wanted s b 3;");
        caught.sail(1);
        due("caught: paint(0)", caught.paint(0), 1);
        due("caught: paint(1)", caught.paint(1), 1);
        due("caught: paint(2)", caught.paint(2), -1);
        // Two men who know the same two roles, and one role that needs the third.
        FalseName crew = Check.with("port a;ship s;ship t;role p;role q;role r;needs t p;needs t q;needs t r;"
            + "man k p q;man l p;man m p r;");
        due("a crew that fits in one way", crew.paint(1), 0);
        FalseName few = Check.with("port a;ship s;ship t;role p;role q;needs t p;needs t q;man k p q;");
        due("one man for two roles", few.paint(1), 3);
    }

    private static void waitTill(FalseName x, int day) {
        while (x.now(0) < day) {
            due("waits", x.waits(Math.min(60, day - x.now(0))), 0);
        }
    }

    // Promise 12
    private static void sail() {
        FalseName x = big();
        due("sail(4)", x.sail(4), -1);
        due("sail(-1)", x.sail(-1), -1);
        due("sail(0)", x.sail(0), 2);
        due("sail(3)", x.sail(3), 2);
        due("sail(1)", x.sail(1), 0);
        nowIs(x, 3, 1, 0, -1, 0, 0, 1, 1);
        due("no ships", Check.with("port a;port b;way a b 1;").sail(1), 1);
        FalseName caught = Check.with("port a;port b;way a b 20;mail b a 1;ship x;ship y;wanted y b 7;wanted x b 5;"
            + "wanted x a 100;");
        due("to where all are wanted", caught.sail(1), 0);
        nowIs(caught, 20, 1, 0, -1, -12, 1, 1, 1);
        due("caught: sail(0)", caught.sail(0), 1);
        due("caught: came", caught.port(1, 2), 1);
        FalseName late = big();
        waitTill(late, 991);
        due("late: sail(2)", late.sail(2), 9);
        due("late: sail(3)", late.sail(3), 2);
        due("late: sail(1)", late.sail(1), 0);
        due("late: sail(2)", late.sail(2), 0);
        due("the last day", late.now(0), 999);
        // Caught on the very day on which the letter comes, not a day ahead of it.
        String mail = "port a;port b;port c;way a b 5;mail c b 5;ship s;wanted s c 9;";
        FalseName onTheDay = Check.with(mail);
        onTheDay.sail(1);
        nowIs(onTheDay, 5, 1, 0, -1, 0, 1, 1, 1);
        FalseName ahead = Check.with("port a;port b;port c;way a b 4;mail c b 5;ship s;wanted s c 9;");
        ahead.sail(1);
        nowIs(ahead, 4, 1, 0, -1, 0, 0, 1, 1);
        ahead.waits(60);
        due("not caught where she is", ahead.now(5), 0);
        // At the start no one asks.
        due("wanted where she begins", Check.with("port a;ship s;wanted s a 1;").now(5), 0);
    }

    // ==== 2: rain
    private static void rain() {
        String text = "port a;port b;port c;way a b 3;way b c 9;mail b c 7;ship s;ship t;rain b 4;rain b 3;rain c 99;";
        FalseName x = Check.with(text);
        x.sail(1);
        due("she had no other name", x.knows(1, 0), -1);
        x.undo();
        x.paint(1);
        x.sail(1);
        due("day 4", x.now(0), 4);
        due("not caught", x.now(5), 0);
        due("both are known", x.knows(1, 0), 4);
        due("both are known", x.knows(1, 1), 4);
        due("and told on", x.knows(2, 0), 11);
        due("not to a", x.knows(0, 1), -1);
        due("port(1, 0)", x.port(1, 0), 3);
        x.sail(2);
        due("the letters were faster", x.now(5), 1);
        due("nothing to pay", x.now(4), 0);
        FalseName dry = Check.with(text);
        dry.paint(1);
        dry.waits(1);
        dry.sail(1);
        due("no rain", dry.knows(1, 1), -1);
        FalseName later = Check.with(text);
        later.paint(1);
        waitTill(later, 201);
        later.sail(1);
        due("it rains by the rest of 100", later.knows(1, 0), 204);
        // The latest name ahead of it, not all that she had.
        FalseName third = Check.with("port a;port b;way a b 2;ship s;ship t;ship u;rain b 4;wanted s a 1;mail a b 40;");
        third.paint(1);
        third.paint(2);
        third.sail(1);
        due("the first name", third.knows(1, 0), 40);
        due("the second", third.knows(1, 1), 4);
        due("the third", third.knows(1, 2), 4);
        // A letter that was there ahead of the rain stays ahead.
        FalseName letter = Check.with("port a;port b;way a b 2;ship s;ship t;rain b 3;wanted s a 1;mail a b 1;");
        letter.paint(1);
        letter.sail(1);
        due("known ahead", letter.knows(1, 0), 1);
        due("known by rain", letter.knows(1, 1), 3);
        due("not caught then", letter.now(5), 0);
    }

    // Promises 13, 14
    private static void waitsAndTakes() {
        FalseName x = big();
        due("waits(0)", x.waits(0), -1);
        due("waits(-1)", x.waits(-1), -1);
        due("waits(61)", x.waits(61), -1);
        due("waits(MAX)", x.waits(Integer.MAX_VALUE), -1);
        due("waits(60)", x.waits(60), 0);
        due("waits(1)", x.waits(1), 0);
        due("day", x.now(0), 61);
        waitTill(x, 990);
        due("late: waits(10)", x.waits(10), 9);
        due("late: waits(9)", x.waits(9), 0);
        due("late: takes()", x.takes(), 2);
        due("no sea for her", new FalseName().waits(60), 1);
        FalseName y = big();
        due("nothing is owed here", y.takes(), 2);
        y.paint(1);
        due("to this name it is", y.takes(), 0);
        due("takes no day", y.now(0), 1);
        due("coin", y.now(4), 30);
        due("it is taken", y.takes(), 2);
        due("no sea for her", new FalseName().takes(), 1);
        FalseName caught = Check.with("port a;port b;way a b 1;ship s;wanted s b 3;owed s b 9;");
        caught.sail(1);
        due("caught: takes()", caught.takes(), 1);
        due("caught: waits(1)", caught.waits(1), 1);
        due("caught: waits(61)", caught.waits(61), -1);
        due("caught: coin", caught.now(4), -3);
        FalseName last = Check.with("port a;ship s;owed s a 250;");
        waitTill(last, 999);
        due("on the last day", last.takes(), 0);
    }

    // Promises 15, 28, 29
    private static void learn() {
        FalseName x = big();
        due("learn(2, 0)", x.learn(2, 0), -1);
        due("learn(-1, 0)", x.learn(-1, 0), -1);
        due("learn(0, 2)", x.learn(0, 2), -1);
        due("learn(0, -1)", x.learn(0, -1), -1);
        due("learn(0, 0)", x.learn(0, 0), 2);
        due("man(0)", x.man(0), 1);
        due("learn(0, 1)", x.learn(0, 1), 0);
        due("three days", x.now(0), 3);
        due("man(0)", x.man(0), 3);
        due("man(1)", x.man(1), 1);
        due("man(2)", x.man(2), -1);
        due("man(-1)", x.man(-1), -1);
        due("needs(0)", x.needs(0), 0);
        due("needs(1)", x.needs(1), 1);
        due("needs(2)", x.needs(2), 3);
        due("needs(3)", x.needs(3), -1);
        due("needs(-1)", x.needs(-1), -1);
        waitTill(x, 997);
        due("late: learn(1, 0)", x.learn(1, 0), 2);
        due("late: learn(1, 1)", x.learn(1, 1), 9);
        x.undo();
        waitTill(x, 996);
        due("to the last day", x.learn(1, 1), 0);
        due("no sea for her", Check.with("man m;role r;").learn(0, 0), 1);
        FalseName caught = Check.with("port a;port b;way a b 1;ship s;wanted s b 3;man m;role r;");
        caught.sail(1);
        due("caught: learn(0, 0)", caught.learn(0, 0), 1);
    }

    // Promise 16
    private static void undo() {
        FalseName x = big();
        due("nothing yet", x.undo(), -1);
        x.paint(0);
        x.waits(61);
        x.sail(3);
        x.takes();
        due("what was not done is not undone", x.undo(), -1);
        x.paint(1);
        x.takes();
        x.learn(0, 1);
        x.waits(5);
        x.paint(0);
        x.sail(2);
        nowIs(x, 19, 2, 0, 1, 30, 0, 3, 1);
        due("sail undone", x.undo(), 5);
        due("she did not come", x.port(2, 2), 0);
        nowIs(x, 10, 0, 0, 1, 30, 0, 3, 0);
        due("paint undone", x.undo(), 4);
        nowIs(x, 9, 0, 1, 0, 30, 0, 3, 0);
        due("wait undone", x.undo(), 3);
        due("learning undone", x.undo(), 2);
        due("man(0)", x.man(0), 1);
        due("taking undone", x.undo(), 1);
        due("owed again", x.price(1, 0, 1), 30);
        due("coin", x.now(4), 0);
        due("paint undone", x.undo(), 0);
        nowIs(x, 0, 0, 0, -1, 0, 0, 1, 0);
        due("no more", x.undo(), -1);
        for (int i = 1; i <= 12; i++) {
            x.waits(i);
        }
        for (int i = 7; i >= 0; i--) {
            due("undo of 12", x.undo(), i);
            due("the day then", x.now(0), (i + 4) * (i + 5) / 2);
        }
        due("no more than 8", x.undo(), -1);
        due("the first four stay", x.now(0), 10);
        FalseName y = big();
        Check.log(y, "waits 2;sails bari;waits 3;", 1);
        due("log lived", y.now(0), 8);
        y.drawn(5, 1);
        due("drawn undone", y.undo(), 1);
        due("back to 8", y.now(0), 8);
        Check.log(y, "waits 2;", 0);
        due("a judged log is none", y.undo(), 0);
        due("back to 0", y.now(0), 0);
        FalseName caught = Check.with("port a;port b;way a b 1;mail b a 1;ship s;ship t;wanted s b 3;rain b 2;");
        caught.sail(1);
        due("caught: drawn", caught.drawn(5, 1), 0);
        due("freed", caught.undo(), 0);
        nowIs(caught, 0, 0, 0, -1, 0, 0, 1, 0);
        caught.paint(1);
        caught.sail(1);
        due("rain tells", caught.knows(0, 1), 3);
        caught.undo();
        due("what was told is undone", caught.knows(0, 1), -1);
        FalseName kept = big();
        kept.waits(1);
        Check.sentence(kept, "here");
        kept.undo();
        due("the sentence stays", kept.said(-1), 1);
        undoOfUnlivedLogs();
    }

    private static void undoOfUnlivedLogs() {
        FalseName none = new FalseName();
        due("no sea for her: an empty log", none.log(1), -1);
        due("nothing was lived", none.undo(), -1);
        due("no sea for her: a log", Check.log(none, "waits 1;", 1), 0);
        due("nothing was lived", none.undo(), -1);
        FalseName x = big();
        x.waits(4);
        due("an empty log", x.log(1), -1);
        due("a blank log", Check.log(x, "  ", 1), -1);
        due("the first line is wrong", Check.log(x, "sails rome;waits 7;", 1), 0);
        due("the wait is undone", x.undo(), 0);
        due("back to 0", x.now(0), 0);
        due("no more", x.undo(), -1);
        due("the second line is wrong", Check.log(x, "waits 7;sails rome;", 1), 1);
        due("day 7", x.now(0), 7);
        due("the first line is undone", x.undo(), 0);
        due("back to 0", x.now(0), 0);
    }

    // Promises 17, 18
    private static void knowsAndFirst() {
        FalseName x = big();
        int[][] want = {{-1, 6, -1}, {-1, 0, -1}, {-1, 2, -1}, {-1, -1, -1}};
        for (int p = 0; p < 4; p++) {
            for (int s = 0; s < 3; s++) {
                due("knows(" + p + ", " + s + ")", x.knows(p, s), want[p][s]);
            }
        }
        due("knows(4, 0)", x.knows(4, 0), -1);
        due("knows(0, 3)", x.knows(0, 3), -1);
        due("knows(-1, 1)", x.knows(-1, 1), -1);
        due("knows(0, -1)", x.knows(0, -1), -1);
        due("first(0)", x.first(0), -1);
        due("first(1)", x.first(1), 1);
        due("first(3)", x.first(3), -1);
        due("first(-1)", x.first(-1), -1);
        FalseName y = Check.with("port a;port b;port c;mail c b 2;ship s;wanted s c 1;wanted s b 1;");
        due("of like ones the first", y.first(0), 1);
        due("by itself, not by the letter", y.knows(1, 0), 0);
    }

    // Promises 19, 20
    private static void farAndHears() {
        FalseName x = big();
        due("far(0, 2)", x.far(0, 2), 8);
        due("far(2, 0)", x.far(2, 0), 8);
        due("far(1, 1)", x.far(1, 1), 0);
        due("far(3, 3)", x.far(3, 3), 0);
        due("far(0, 3)", x.far(0, 3), -1);
        due("far(0, 4)", x.far(0, 4), -1);
        due("far(-1, -1)", x.far(-1, -1), -1);
        due("hears(1, 0)", x.hears(1, 0), 6);
        due("hears(0, 1)", x.hears(0, 1), -1);
        due("hears(1, 1)", x.hears(1, 1), -1);
        due("hears(4, 1)", x.hears(4, 1), -1);
        due("hears(1, -1)", x.hears(1, -1), -1);
        FalseName round = Check.with("port a;port b;mail a b 1;mail b a 40;");
        due("there and back", round.hears(0, 0), -1);
        due("hears(1, 0)", round.hears(1, 0), 40);
    }

    // Promises 21, 22
    private static void safeAndOutruns() {
        FalseName x = big();
        due("safe(1)", x.safe(1), 5);
        due("safe(2)", x.safe(2), 5);
        due("safe(3)", x.safe(3), -1);
        due("safe(0)", x.safe(0), -1);
        due("safe(4)", x.safe(4), -1);
        due("safe(-1)", x.safe(-1), -1);
        due("outruns(0)", x.outruns(0), 1);
        due("outruns(3)", x.outruns(3), -1);
        due("outruns(4)", x.outruns(4), -1);
        due("outruns(-1)", x.outruns(-1), -1);
        due("no sea for her", Check.with("port a;port b;way a b 1;").safe(1), -1);
        due("no sea for her", Check.with("port a;port b;way a b 1;").outruns(1), -1);
        String text = "port a;port b;port c;port d;way a b 3;way b d 3;mail c b 3;mail c d 7;ship s;ship t;wanted s c 1;";
        FalseName y = Check.with(text);
        due("on that very day", y.safe(1), 2);
        due("not ahead of it", y.outruns(1), 0);
        due("further, but ahead", y.outruns(3), 1);
        y.waits(1);
        due("not any more", y.outruns(3), 0);
        due("where she is", y.outruns(0), 1);
        y.sail(1);
        due("caught: safe", y.safe(0), -1);
        due("caught: outruns", y.outruns(0), 1);
    }

    // Promises 23, 24
    private static void names() {
        FalseName x = big();
        int[] want = {0, 1, 2, 0};
        due("names()", x.names(), 3);
        for (int p = 0; p < 4; p++) {
            due("nameOf(" + p + ")", x.nameOf(p), want[p]);
        }
        due("nameOf(4)", x.nameOf(4), -1);
        due("nameOf(-1)", x.nameOf(-1), -1);
        due("no ports", new FalseName().names(), 0);
        due("no mails", Check.with("port a;port b;").names(), 1);
        due("no mails", Check.with("port a;port b;").nameOf(1), 0);
        // A row a, c, d, b: the least name that is free each time would need a third.
        FalseName y = Check.with("port a;port b;port c;port d;mail a c 1;mail d c 1;mail d b 1;");
        due("names()", y.names(), 2);
        due("nameOf(0)", y.nameOf(0), 0);
        due("nameOf(1)", y.nameOf(1), 1);
        due("nameOf(2)", y.nameOf(2), 1);
        due("nameOf(3)", y.nameOf(3), 0);
        FalseName z = Check.with("port a;port b;port c;port d;mail a d 1;mail c b 1;mail c d 1;");
        due("names()", z.names(), 2);
        due("nameOf(3)", z.nameOf(3), 1);
        due("nameOf(1)", z.nameOf(1), 1);
        FalseName all = Check.with(lines("port", "a,b,c,d,e,f,g,h")
            + "mail a b 1;mail b c 1;mail c d 1;mail d e 1;mail e f 1;mail f g 1;mail g h 1;");
        due("all unlike", all.names(), 8);
        due("nameOf(7)", all.nameOf(7), 7);
    }

    // Promise 25
    private static void register() {
        FalseName x = big();
        due("one ship", Check.register(x, 0, 0, 1, 3, 2, 8), 1);
        due("in any order", Check.register(x, 2, 8, 0, 0, 1, 3), 1);
        due("too fast", Check.register(x, 0, 0, 2, 7), 2);
        due("fast enough", Check.register(x, 0, 0, 2, 8), 1);
        due("at once in one port", Check.register(x, 0, 4, 0, 4, 0, 4), 1);
        due("at once in two", Check.register(x, 0, 4, 1, 4), 2);
        due("not to be reached", Check.register(x, 3, 0, 0, 255), 2);
        due("the highest day", Check.register(x, 0, 0, 2, 255), 1);
        due("ten", Check.register(x, 0, 0, 1, 0, 2, 0, 3, 0, 0, 1, 1, 1, 2, 1, 3, 1, 0, 2, 1, 2), 4);
        due("eleven", Check.register(x, 0, 0, 0, 0, 0, 0, 0, 0, 0, 0, 0, 0, 0, 0, 0, 0, 0, 0, 0, 0, 0, 0), -1);
        due("one", Check.register(x, 0, 0), -1);
        due("none", Check.register(x), -1);
        due("half a pair", Check.register(x, 0, 0, 0, 0, 0), -1);
        due("no such port", Check.register(x, 0, 0, 4, 0), -1);
        due("no such port", Check.register(x, 255, 0, 0, 0), -1);
        due("the tape is empty then", x.count(7), 0);
        due("without ships", Check.register(Check.with("port a;"), 0, 0, 0, 9), 1);
        due("without ports", Check.register(new FalseName(), 0, 0, 0, 9), -1);
        due("fault stays", x.fault(), 0);
    }

    // Promises 26, 27
    private static void crew() {
        FalseName x = big();
        due("lacks(0)", x.lacks(0), 0);
        due("lacks(1)", x.lacks(1), 0);
        due("lacks(2)", x.lacks(2), 1);
        due("lacks(3)", x.lacks(3), -1);
        due("lacks(-1)", x.lacks(-1), -1);
        due("plays(2, 0)", x.plays(2, 0), 0);
        due("plays(2, 1)", x.plays(2, 1), 1);
        due("plays(2, 2)", x.plays(2, 2), -1);
        due("plays(2, -1)", x.plays(2, -1), -1);
        due("plays(1, 0)", x.plays(1, 0), 0);
        due("plays(0, 0)", x.plays(0, 0), -1);
        due("plays(3, 0)", x.plays(3, 0), -1);
        due("plays(-1, 0)", x.plays(-1, 0), -1);
        x.learn(0, 1);
        due("lacks(2)", x.lacks(2), 0);
        due("plays(2, 0)", x.plays(2, 0), 1);
        due("plays(2, 1)", x.plays(2, 1), 0);
        FalseName few = Check.with("ship s;role q;role r;needs s q;needs s r;man m q r;");
        due("not as many men", few.lacks(0), -1);
        due("not as many men", few.plays(0, 0), -1);
        FalseName none = Check.with("ship s;role q;role r;needs s r;man k;man l q;man m;");
        due("none knows it", none.lacks(0), 1);
        due("the first man learns", none.plays(0, 0), 0);
        // The k-th that is needed, not the k-th of all.
        FalseName y = Check.with("ship s;role p;role q;role r;needs s r;needs s q;man k p;man l r;man m q r;");
        due("plays(0, 0)", y.plays(0, 0), 2);
        due("plays(0, 1)", y.plays(0, 1), 1);
        due("needs(0)", y.needs(0), 6);
    }

    // Promises 30, 31
    private static void over() {
        FalseName x = big();
        due("over(0, 1)", x.over(0, 1), 2);
        due("over(1, 0)", x.over(1, 0), 2);
        due("over(0, 2)", x.over(0, 2), 2);
        due("over(2, 2)", x.over(2, 2), -1);
        due("over(3, 0)", x.over(3, 0), -1);
        due("over(0, -1)", x.over(0, -1), -1);
        due("mixed(-1)", x.mixed(-1), 1);
        due("mixed(0)", x.mixed(0), 1);
        due("mixed(1)", x.mixed(1), -1);
        due("mixed(-2)", x.mixed(-2), -1);
        FalseName y = Check.with("port zb;ship za;ship ab;ship zabcdef;ship b;ship zbbcdef;ship zab;");
        due("a port's name", y.over(0, 1), -1);
        due("of unlike length", y.over(2, 3), 2);
        due("a third one", y.over(1, 2), 4);
        due("mixed(-1)", y.mixed(-1), 1);
        due("mixed(0)", y.mixed(0), 12);
        FalseName z = Check.with("ship ac;ship ca;ship cc;ship ab;ship ba;ship bb;ship bc;");
        int[] want = {1, 4, 5, 16, 34, -1};
        due("mixed(-1)", z.mixed(-1), 5);
        for (int k = 0; k < 6; k++) {
            due("mixed(" + k + ")", z.mixed(k), want[k]);
        }
    }

    private static boolean lastsThrows(FalseName x, int n, int what) {
        return Check.throwsNoSuch(() -> x.lasts(n, what));
    }

    // Promises 32, 33
    private static void netAndLasts() {
        FalseName x = big();
        due("net(0)", x.net(0), 50);
        due("net(1)", x.net(1), 10);
        due("net(2)", x.net(2), 0);
        due("net(3) throws", Check.throwsNoSuch(() -> x.net(3)), true);
        due("net(-1) throws", Check.throwsNoSuch(() -> x.net(-1)), true);
        x.paint(1);
        x.takes();
        due("taken: net(1)", x.net(1), -20);
        int[] above = {1, 2, 4, 8, 16, 32, 64};
        int[] below = {1, 3, 9, 27, 81, 243, 729};
        for (int n = 0; n <= 6; n++) {
            due("lasts(" + n + ", 0)", x.lasts(n, 0), above[n]);
            due("lasts(" + n + ", 1)", x.lasts(n, 1), below[n]);
        }
        due("lasts(7, 0) throws", lastsThrows(x, 7, 0), true);
        due("lasts(-1, 0) throws", lastsThrows(x, -1, 0), true);
        due("lasts(0, 2) throws", lastsThrows(x, 0, 2), true);
        due("lasts(0, -1) throws", lastsThrows(x, 0, -1), true);
        int[] least = {1, 11, 5, 3, 2, 7, 1, 5, 1, 1, 1, 1, 0};
        int[] of = {1, 12, 6, 4, 3, 12, 2, 12, 3, 4, 6, 12, 1};
        for (int n = 0; n <= 12; n++) {
            FalseName parrot = Check.with("parrot " + n + ";");
            due("parrot " + n + ": lasts(1, 0)", parrot.lasts(1, 0), least[n]);
            due("parrot " + n + ": lasts(1, 1)", parrot.lasts(1, 1), of[n]);
        }
        FalseName never = Check.with("parrot 12;");
        due("0 of 1", never.lasts(3, 0), 0);
        due("0 of 1", never.lasts(3, 1), 1);
        due("1 of 1", never.lasts(0, 0), 1);
        FalseName eleven = Check.with("parrot 1;");
        due("11 to the sixth", eleven.lasts(6, 0), 1771561);
        due("12 to the sixth", eleven.lasts(6, 1), 2985984);
        due("no parrot", Check.with("port a;").lasts(6, 1), 1);
    }

    // Promises 34, 35
    private static void soonest() {
        FalseName x = big();
        due("soonest()", x.soonest(), 8);
        due("where()", x.where(), 2);
        x.paint(1);
        due("where she is", x.soonest(), 1);
        due("where she is", x.where(), 0);
        x.takes();
        due("none", x.soonest(), -1);
        due("none", x.where(), -1);
        FalseName here = Check.with("port a;port b;way a b 1;ship s;wanted s a 5;owed s a 5;owed s b 9;mail a b 1;");
        due("she is there already", here.where(), 0);
        here.takes();
        due("she would be caught at b", here.where(), -1);
        FalseName tie = Check.with("port a;port b;port c;port d;port e;way a d 2;way a c 2;way a b 9;way a e 1;ship s;"
            + "owed s b 1;owed s c 1;owed s d 1;");
        due("of like ones the first", tie.where(), 2);
        due("soonest()", tie.soonest(), 2);
        FalseName far = Check.with("port a;port b;port c;way a b 2;way b c 2;ship s;wanted s b 1;owed s c 7;");
        due("whatever is on the way", far.soonest(), 4);
        due("not to be reached", Check.with("port a;port b;ship s;owed s b 7;").soonest(), -1);
        due("no sea for her", new FalseName().where(), -1);
        far.sail(1);
        due("caught", far.soonest(), -1);
        due("caught", far.where(), -1);
    }

    // Promise 36
    private static void drawn() {
        FalseName x = big();
        due("drawn(0, 1)", x.drawn(0, 1), -1);
        due("drawn(61, 1)", x.drawn(61, 1), -1);
        due("drawn(-1, 1)", x.drawn(-1, 1), -1);
        due("no sea for her", new FalseName().drawn(1, 1), -1);
        due("nothing was done", x.undo(), -1);
        // Only one port: nothing can be sailed, and a voyage is tried all the same.
        FalseName alone = Check.with("port a;ship s;ship t;parrot 12;");
        due("60 tried", alone.drawn(60, 5), 60);
        due("no voyages", alone.now(7), 0);
        due("painted as drawn", alone.now(0), paintsOf(60, 5, 2, 1));
        due("undone", alone.undo(), 0);
        due("undone", alone.now(0), 0);
        // A parrot that always tells: the second coming to a port is the last.
        FalseName told = Check.with("port a;port b;way a b 1;ship s;parrot 12;");
        int tried = told.drawn(60, 9);
        due("caught", told.now(5), 1);
        due("told at b", told.knows(1, 0), 1);
        due("told at a", told.knows(0, 0), 2);
        due("three voyages", told.now(7), 3);
        due("how many were tried", tried, triedOf(9));
        due("nothing more", told.drawn(60, 9), 0);
        FalseName silent = Check.with("port a;port b;way a b 1;ship s;parrot 0;");
        due("no one tells", silent.drawn(60, 9), 60);
        due("not caught", silent.now(5), 0);
        FalseName late = Check.with("port a;port b;way a b 20;ship s;ship t;");
        late.drawn(60, 3);
        late.drawn(60, 3);
        late.drawn(60, 3);
        late.drawn(60, 3);
        due("not longer than day 999", late.now(0) <= 999 && late.now(0) > 960, true);
    }

    private static int x;

    private static int draw(int n) {
        x = x * 1103515245 + 12345;
        return (x >>> 8) % n;
    }

    /** How often she is painted, if she has one of the names at first and can never sail. */
    private static int paintsOf(int voyages, int seed, int ships, int ports) {
        x = seed;
        int name = 0;
        int paints = 0;
        for (int i = 0; i < voyages; i++) {
            if (draw(3) == 0) {
                int s = draw(ships);
                paints += s == name ? 0 : 1;
                name = s;
            }
            draw(ports);
        }
        return paints;
    }

    /** How many voyages between two ports till the third that she sails, with one name. */
    private static int triedOf(int seed) {
        x = seed;
        int port = 0;
        int sailed = 0;
        int tried = 0;
        while (sailed < 3) {
            tried++;
            if (draw(3) == 0) {
                draw(1);
            }
            int p = draw(2);
            if (p != port) {
                port = p;
                sailed++;
                draw(12);
            }
        }
        return tried;
    }

    // Promise 37
    private static void odds() {
        FalseName x = big();
        due("odds(0, 1)", x.odds(0, 1), -1);
        due("odds(31, 1)", x.odds(31, 1), -1);
        due("no sea for her", new FalseName().odds(1, 1), -1);
        for (int seed : new int[] {0, 7, -3, Integer.MAX_VALUE - 4, Integer.MIN_VALUE}) {
            int free = 0;
            for (int i = 0; i < 30; i++) {
                x.drawn(10, seed + i);
                free += 1 - x.now(5);
                x.undo();
            }
            due("odds(30, " + seed + ")", x.odds(30, seed), free);
        }
        due("all stays", x.now(0), 0);
        due("nothing to undo", x.undo(), -1);
        FalseName caught = Check.with("port a;port b;way a b 1;ship s;wanted s b 3;");
        caught.sail(1);
        due("caught", caught.odds(30, 1), 0);
    }

    private static void logFault(String text, int kind, int place) {
        FalseName x = big();
        due("log() of " + text, Check.log(x, text, 1), -2 - place);
        due("fault() of " + text, x.fault(), kind);
        due("nothing is lived", x.now(0), 0);
        due("nothing is lived", x.undo(), -1);
        due("the tape is empty", x.count(7), 0);
        due("logged(0)", x.logged(0), -1);
    }

    // Promises 38, 5
    private static void logFaults() {
        logFault("waits 1", 1, 7);
        logFault("waits 1;;", 1, 8);
        logFault("waits 0;", 2, 6);
        logFault("waits 61;", 2, 6);
        logFault("waits 61;x", 2, 6);
        logFault("waits x;", 1, 6);
        logFault("waits;", 1, 5);
        logFault("sails rom;", 3, 6);
        logFault("sails ad;", 3, 6);
        logFault("sails sails;", 1, 6);
        logFault("paints rome;", 3, 7);
        logFault("paints;", 1, 6);
        logFault("takes 1;", 1, 6);
        logFault("port a;", 1, 0);
        logFault("learns cook;", 1, 0);
        logFault("ann learns cook;", 3, 0);
        logFault("rome learns cook;", 3, 0);
        logFault("tom cook;", 1, 4);
        logFault("tom takes cook;", 1, 4);
        logFault("tom learns;", 1, 10);
        logFault("tom learns tim;", 3, 11);
        logFault("tom learns or;", 1, 11);
        logFault("12;", 1, 0);
        String forty = "waits 1;".repeat(40);
        FalseName x = big();
        due("40 lines", Check.log(x, forty, 1), -1);
        due("day 40", x.now(0), 40);
        due("fault()", x.fault(), 0);
        logFault(forty + "waits 1;", 4, 320);
        logFault(forty + "tom", 4, 320);
        logFault(forty + "ann", 3, 320);
        logFault(forty + "or", 1, 320);
        logFault(forty + " ;", 1, 321);
        due("400 bytes", Check.log(big(), padded(forty, 400), 0), -1);
        logFault(padded(forty, 401), 1, 400);
        logFault(padded("takes;", 397) + "takes;", 1, 400);
        logFault(padded("takes;", 398) + "sails rome;", 1, 400);
        logFault(padded("takes;", 398) + "ann learns;", 3, 398);
    }

    private static void logJudged() {
        FalseName x = big();
        due("another lives", x.log(2), -1000);
        due("another lives", x.log(-1), -1000);
        due("an empty log", x.log(0), -1);
        Check.put(x, "port");
        due("another lives", x.log(2), -1000);
        due("the tape stays", x.count(7), 4);
        due("a fault", x.sea(), -5);
        due("fault()", x.fault(), 1);
        due("another lives", x.log(3), -1000);
        due("fault() is left", x.fault(), 1);
        due("judged", Check.log(x, "tim learns mate;paints bd;sails bari;waits 3;sails oran;takes;sails acre;", 0), 5);
        due("all stays", x.now(0), 0);
        due("all stays", x.man(1), 1);
        due("fault()", x.fault(), 0);
        due("lived", Check.log(x, "tim learns mate;paints bd;sails bari;waits 3;sails oran;takes;sails acre;", 1), 5);
        nowIs(x, 15, 2, 2, 0, 0, 0, 5, 2);
        due("undone at once", x.undo(), 0);
        nowIs(x, 0, 0, 0, -1, 0, 0, 1, 0);
    }

    private static void loggedIs(FalseName x, String text, int wrong, int... want) {
        due("log(0) of " + text, Check.log(x, text, 0), wrong);
        for (int what = 0; what < 4; what++) {
            due("logged(" + what + ") of " + text, x.logged(what), want[what]);
        }
    }

    // Promise 39
    private static void logged() {
        FalseName x = big();
        due("ahead of any", x.logged(0), -1);
        loggedIs(x, "", -1, 0, 0, 0, 0);
        loggedIs(x, "waits 5;sails bari;", -1, 0, 2, 8, 0);
        loggedIs(x, "paints ad;waits 1;", 0, 2, 0, 0, 0);
        loggedIs(x, "waits 2;paints bd;", 1, 3, 1, 2, 0);
        loggedIs(x, "sails rome;", 0, 12, 0, 0, 0);
        loggedIs(x, "takes;", 0, 32, 0, 0, 0);
        loggedIs(x, "paints ba;takes;takes;", 2, 32, 2, 1, 0);
        loggedIs(x, "tom learns mate;tom learns mate;", 1, 42, 1, 3, 0);
        loggedIs(x, "paints ba;sails bari;", -1, 0, 2, 4, 1);
        String caught = "paints ba;sails bari;";
        loggedIs(x, caught + "paints ad;", 2, 1, 2, 4, 1);
        loggedIs(x, caught + "sails rome;", 2, 11, 2, 4, 1);
        loggedIs(x, caught + "waits 1;", 2, 21, 2, 4, 1);
        loggedIs(x, caught + "takes;", 2, 31, 2, 4, 1);
        loggedIs(x, caught + "tom learns mate;", 2, 41, 2, 4, 1);
        due("logged(4)", x.logged(4), -1);
        due("logged(-1)", x.logged(-1), -1);
        Check.log(x, "x", 0);
        due("a fault leaves it", x.logged(0), 41);
        x.log(7);
        due("-1000 leaves it", x.logged(0), 41);
        Check.sea(x, "");
        due("a new sea leaves it", x.logged(1), 2);
        loggedIs(x, "waits 1;", 0, 21, 0, 0, 0);
        FalseName late = big();
        waitTill(late, 998);
        loggedIs(late, "waits 2;", 0, 29, 0, 998, 0);
        loggedIs(late, "sails bari;", 0, 19, 0, 998, 0);
        loggedIs(late, "tom learns mate;", 0, 49, 0, 998, 0);
        loggedIs(late, "paints ba;paints ad;", 1, 9, 1, 999, 0);
    }

    private static void sentenceFault(String text, int kind, int place) {
        FalseName x = big();
        Check.sentence(x, "number = 3");
        due("sentence() of " + text, Check.sentence(x, text), -1 - place);
        due("fault() of " + text, x.fault(), kind);
        due("it stays", x.said(0), 3);
        due("the tape is empty", x.count(7), 0);
    }

    // Promise 40
    private static void sentenceFaults() {
        FalseName x = big();
        due("a bracket is one", Check.sentence(x, "(here)"), 2);
        due("not, bracket and one", Check.sentence(x, "not(here or been)and far<1"), 5);
        due("signs need no blanks", Check.sentence(x, "names>0 or number=1\nand hears rome"), 3);
        due("knows", Check.sentence(x, "knows ad"), 1);
        sentenceFault("", 1, 0);
        sentenceFault("names>0or here", 1, 6);
        sentenceFault("  ", 1, 2);
        sentenceFault("here and", 1, 8);
        sentenceFault("here here", 1, 5);
        sentenceFault("here;", 1, 4);
        sentenceFault("(here", 1, 5);
        sentenceFault("here)", 1, 4);
        sentenceFault("()", 1, 1);
        sentenceFault("rome", 1, 0);
        sentenceFault("or here", 1, 0);
        sentenceFault("not", 1, 3);
        sentenceFault("port", 1, 0);
        sentenceFault("far 3", 1, 4);
        sentenceFault("far ; 3", 1, 4);
        sentenceFault("far < x", 1, 6);
        sentenceFault("far < 1000", 1, 6);
        sentenceFault("far <= 3", 1, 5);
        sentenceFault("knows rome", 3, 6);
        sentenceFault("knows xx", 3, 6);
        sentenceFault("knows far", 1, 6);
        sentenceFault("knows", 1, 5);
        sentenceFault("hears ad", 3, 6);
        sentenceFault("hears 1", 1, 6);
        due("8 within", Check.sentence(x, "not ".repeat(7) + "here"), 8);
        sentenceFault("not ".repeat(8) + "here", 4, 32);
        due("8 brackets and ones", Check.sentence(x, "(".repeat(7) + "here" + ")".repeat(7)), 8);
        sentenceFault("(".repeat(8) + "here" + ")".repeat(8), 4, 8);
        sentenceFault("(".repeat(8) + "rome", 1, 8);
        sentenceFault("(".repeat(9), 4, 8);
        due("beside one another", Check.sentence(x, "(((here)))and not(not been)or((here))"), 11);
        String twenty = "here or ".repeat(19) + "here";
        due("20 ones", Check.sentence(x, twenty), 20);
        sentenceFault(twenty + " and been", 4, 161);
        sentenceFault(twenty + " and bari", 1, 161);
        sentenceFault(twenty + " and not", 4, 161);
        due("200 bytes", Check.sentence(x, padded("here", 200)), 1);
        sentenceFault(padded("here", 201), 1, 200);
        sentenceFault(padded("here", 198) + "and been", 1, 200);
        sentenceFault(padded("here", 199) + "xxx", 1, 199);
        sentenceFault(padded("here or ", 199) + "bed", 1, 199);
        due("no sentence", new FalseName().said(-1), -1);
        due("no sentence", big().said(0), -1);
    }

    /** said() of a sentence, as bits. */
    private static int ports(FalseName x, String text) {
        due("sentence() of " + text, Check.sentence(x, text) > 0, true);
        int many = x.said(-1);
        int bits = 0;
        for (int k = 0; k < many; k++) {
            bits |= 1 << x.said(k);
            due("in order", k == 0 || x.said(k - 1) < x.said(k), true);
        }
        due("none such", x.said(many), -1);
        due("none such", x.said(-2), -1);
        due("each once", Integer.bitCount(bits), many);
        return bits;
    }

    // Promise 41
    private static void said() {
        FalseName x = big();
        due("here", ports(x, "here"), 1);
        due("been", ports(x, "been"), 1);
        due("safe", ports(x, "safe"), 6);
        due("knows", ports(x, "knows ba"), 2);
        due("hears", ports(x, "hears bari"), 5);
        due("hears none", ports(x, "hears rome"), 0);
        due("far <", ports(x, "far < 8"), 3);
        due("far =", ports(x, "far = 8"), 4);
        due("far >", ports(x, "far > 7"), 12);
        due("above all", ports(x, "far > 999"), 8);
        due("names =", ports(x, "names = 0"), 13);
        due("names >", ports(x, "names > 0"), 2);
        due("number <", ports(x, "number < 2"), 3);
        due("number =", ports(x, "number = 2"), 4);
        due("not", ports(x, "not here"), 14);
        due("not binds first", ports(x, "not here and number < 2"), 2);
        due("not of a bracket", ports(x, "not (here and number < 2)"), 14);
        due("and binds ahead of or", ports(x, "here or number > 1 and number < 3"), 5);
        due("and binds ahead of or", ports(x, "number > 1 and number < 3 or here"), 5);
        due("brackets", ports(x, "(here or number > 1) and number > 2"), 8);
        due("not not", ports(x, "not not here"), 1);
        due("now", ports(x, "here or knows ba"), 3);
        x.sail(1);
        due("said of what is so now", x.said(-1), 2);
        due("been", ports(x, "been"), 3);
        due("safe", ports(x, "safe"), 5);
        due("known by now", ports(x, "knows ba"), 6);
        due("no ships", ports(Check.with("port a;port b;way a b 1;"), "here or been or safe or far < 999"), 0);
        due("no ships", ports(Check.with("port a;port b;way a b 1;"), "far > 999"), 3);
        due("no ports", ports(new FalseName(), "not here"), 0);
        FalseName caught = Check.with("port a;port b;way a b 1;ship s;ship t;wanted s b 3;");
        due("not safe under her name", ports(caught, "safe"), 0);
        caught.paint(1);
        due("safe under the other", ports(caught, "safe"), 2);
        caught.undo();
        caught.sail(1);
        due("caught", ports(caught, "safe"), 0);
    }

    // Promises 42, 43
    private static void images() {
        FalseName x = big();
        due("restore(0)", x.restore(0), false);
        due("image(-1)", x.image(-1), false);
        due("image(2)", x.image(2), false);
        x.paint(1);
        x.takes();
        x.learn(0, 1);
        Check.sentence(x, "here");
        due("image(1)", x.image(1), true);
        due("restore(0)", x.restore(0), false);
        due("an image can be undone behind", x.undo(), 2);
        Check.sea(x, "port z;port y;way z y 2;ship q;parrot 3;");
        x.sail(1);
        due("image(0)", x.image(0), true);
        Check.log(x, "waits 5;", 0);
        Check.put(x, "xyz");
        due("restore(1)", x.restore(1), true);
        due("the tape stays", x.count(7), 3);
        due("what was logged stays", x.logged(2), 7);
        due("the sea", x.count(0), 4);
        nowIs(x, 4, 0, 1, 0, 30, 0, 3, 0);
        due("the crew", x.man(0), 3);
        due("taken", x.price(1, 0, 1), 0);
        due("the sentence", x.said(-1), 1);
        due("nothing can be undone", x.undo(), -1);
        due("a fault", x.sentence(), -1);
        due("fault()", x.fault(), 1);
        due("restore(0)", x.restore(0), true);
        due("fault() stays", x.fault(), 1);
        due("no sentence there", x.said(-1), -1);
        due("the other sea", x.way(0, 1), 2);
        due("names are its own", Check.log(x, "sails z;", 1), -1);
        nowIs(x, 4, 0, 0, -1, 0, 0, 1, 2);
        due("restore(0) again", x.restore(0), true);
        nowIs(x, 2, 1, 0, -1, 0, 0, 1, 1);
        due("came", x.port(1, 2), 1);
        due("restore(2)", x.restore(2), false);
        due("restore(-1)", x.restore(-1), false);
        FalseName empty = new FalseName();
        empty.image(0);
        Check.sea(empty, SEA);
        due("an image of nothing", empty.restore(0), true);
        due("no sea", empty.now(1), -1);
    }
}
