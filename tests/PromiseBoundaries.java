/** The boundary cases of promises 1 to 22. */
final class PromiseBoundaries {
    /** None of them is a number of anything. */
    static final int[] ODD = {Integer.MIN_VALUE, Integer.MIN_VALUE + 1, -1000, -2, -1, 8, 9, 16, 31, 32, 63, 64, 100, 255, 256,
        1 << 29, 1 << 30, Integer.MAX_VALUE - 1, Integer.MAX_VALUE};
    static final String[] EIGHT = {"a", "b", "c", "d", "e", "f", "g", "h"};
    static final String[] EIGHT_SHIPS = {"sa", "sb", "sc", "sd", "se", "sf", "sg", "sh"};
    private static final String PORTS = Texts.lines("port", EIGHT);
    private static final String SHIPS = Texts.lines("ship", EIGHT_SHIPS);
    private static final String PAIR = "port a;port b;way a b 3;ship s;ship t;";

    private PromiseBoundaries() {
    }

    static void all() {
        newObject();
        feedBytes();
        feedFull();
        endTrue();
        endFalse();
        seaIsRead();
        seaFault();
        fault();
        portKnown();
        portWanted();
        portCame();
        portRain();
        portWays();
        portMails();
        portThrows();
        way();
        mail();
        price();
        priceTaken();
        nowNone();
        nowHad();
        nowCounts();
        nowOther();
        paint();
        sail();
        waits();
        takes();
        learn();
        undoneSorts();
        undoKept();
        undoNone();
        knows();
        first();
        far();
        hears();
        safeNames();
        safeNone();
        outruns();
    }

    static void due(String call, long got, long want) {
        Check.due(call, got, want);
    }

    static void due(String call, boolean got, boolean want) {
        Check.due(call, got, want);
    }

    private static void newObject() {
        Doc.says("Promise 1", "An empty SEA; an empty tape.");
        FalseName x = new FalseName();
        for (int what = 0; what <= 7; what++) {
            due("count(" + what + ")", x.count(what), 0);
        }
        RuleBoundaries.nowIs(x, 0, -1, -1, -1, 0, 0, 0, 0);
        due("names()", x.names(), 0);
        due("mixed(-1)", x.mixed(-1), 0);
        due("said(-1)", x.said(-1), -1);
        due("undo()", x.undo(), -1);
        due("restore(0)", x.restore(0), false);
        due("end(0)", x.end(0), true);
        due("end(1)", x.end(1), false);
        due("sea()", x.sea(), 0);
        due("log(0)", x.log(0), -1);
        due("register()", x.register(), -1);
        due("sentence()", x.sentence(), -1);
    }

    private static void feedBytes() {
        Doc.says("Promise 2", "Twenty bytes come behind the tape, of each number the highest first: how many it has");
        FalseName x = new FalseName();
        // "port abcdefg;port h;"
        due("feed", x.feed(0x706f7274, 0x20616263, 0x64656667, 0x3b706f72, 0x7420683b), 20);
        due("feed", x.feed(0x7368_6970, 0x20613b20, 0x20202020, 0x20202020, 0x0a0a0a0a), 40);
        due("sea()", x.sea(), 3);
        due("PORTS", x.count(0), 2);
        due("SHIPS", x.count(3), 1);
        // The bytes 255 and 128 come too, as they are.
        due("feed", x.feed(-1, Integer.MIN_VALUE, 0, 0, 0), 20);
        due("sea()", x.sea(), -1);
        // PORT 0 on DAY 255, PORT 1 on DAY 128: two ships, since no way goes there.
        due("feed", x.feed(0x00ff0180, 0, 0, 0, 0), 20);
        due("end(4)", x.end(4), true);
        due("register()", x.register(), 2);
    }

    private static void feedFull() {
        Doc.says("Promise 2", "NONE, and none come, if it would have more than 940.");
        FalseName x = new FalseName();
        for (int i = 1; i <= 47; i++) {
            due("feed " + i, x.feed(0x20202020, 0x20202020, 0x20202020, 0x20202020, 0x20202020), 20 * i);
        }
        due("feed to 960", x.feed(0, 0, 0, 0, 0), -1);
        due("count(7)", x.count(7), 940);
        due("end(921)", x.end(921), true);
        due("feed to 941", x.feed(0, 0, 0, 0, 0), -1);
        due("count(7)", x.count(7), 921);
        due("end(920)", x.end(920), true);
        due("feed to 940", x.feed(0x20202020, 0x20202020, 0x20202020, 0x20202020, 0x20202020), 940);
        due("end(900)", x.end(900), true);
        due("none came", x.sea(), 0);
        due("empty again", x.feed(0, 0, 0, 0, 0), 20);
    }

    private static void endTrue() {
        Doc.says("Promise 3", "The tape has its first n bytes alone: true");
        FalseName x = new FalseName();
        due("end(0) of none", x.end(0), true);
        Check.put(x, "port a;port b;port c;");
        due("end(21): all", x.end(21), true);
        due("all", x.count(7), 21);
        due("end(14)", x.end(14), true);
        due("count(7)", x.count(7), 14);
        due("what is cut off does not come back", x.end(15), false);
        // What is fed comes behind the first n.
        due("feed", x.feed(0x706f7274, 0x20643b20, 0x20202020, 0x20202020, 0x20202020), 34);
        due("sea()", x.sea(), 3);
        Check.put(x, "port a;");
        due("end(0)", x.end(0), true);
        due("sea()", x.sea(), 0);
    }

    private static void endFalse() {
        Doc.says("Promise 3", "false, if it has not so many, or n is below 0.");
        FalseName x = new FalseName();
        due("end(1) of none", x.end(1), false);
        Check.put(x, "port a;");
        due("end(8)", x.end(8), false);
        due("end(-1)", x.end(-1), false);
        due("end(MAX)", x.end(Integer.MAX_VALUE), false);
        due("end(MIN)", x.end(Integer.MIN_VALUE), false);
        due("it stays", x.count(7), 7);
        due("it stays", x.sea(), 1);
    }

    private static void seaIsRead() {
        Doc.says("Promise 4", "The tape (empty then, here and below) is the SEA now: how many LINES");
        FalseName x = Check.with(Texts.SEA);
        due("the tape is empty", x.count(7), 0);
        due("an empty SEA", x.sea(), 0);
        due("no PORTS", x.count(0), 0);
        due("no SHIPS", x.count(3), 0);
        due("no parrot", x.count(6), 0);
        Check.put(x, Texts.SEA);
        due("16 LINES", x.sea(), 16);
        Check.put(x, "takes;");
        x.log(0);
        due("empty behind log(0)", x.count(7), 0);
        Check.put(x, "takes;");
        x.log(1);
        due("empty behind log(1)", x.count(7), 0);
        Check.put(x, "here");
        x.sentence();
        due("empty behind sentence()", x.count(7), 0);
        Check.put(x, "    ");
        x.register();
        due("empty behind register()", x.count(7), 0);
        for (int which = 0; which < 5; which++) {
            Check.put(x, "#");
            int got = switch (which) {
                case 0 -> x.sea();
                case 1 -> x.log(0);
                case 2 -> x.log(1);
                case 3 -> x.sentence();
                default -> x.register();
            };
            due("a FAULT", got < 0, true);
            due("empty behind a FAULT", x.count(7), 0);
        }
    }

    private static void seaFault() {
        Doc.says("Promise 4", "-1 less the place of a FAULT: it stays.");
        FalseName x = Check.with(Texts.SEA);
        Check.sentence(x, "here or been");
        x.sail(1);
        x.takes();
        Looks.stay("sea() with a FAULT", x, () -> {
            due("the first byte", Check.sea(x, "#"), -1);
            due("the second", Check.sea(x, " #"), -2);
            due("the end", Check.sea(x, "port z;port y;ship x;parrot 12"), -31);
            due("the 900th", Check.sea(x, Texts.padded("", 899) + "#"), -900);
            due("too long", Check.sea(x, Texts.padded("port z;", 940)), -901);
        });
        due("what was done can be undone", x.undo(), 1);
    }

    private static void fault() {
        Doc.says("Promise 5", "The kind of the FAULT of the latest sea(), log() or sentence() (a log() of -1000 leaves it); "
            + "0 without one and ahead of any.");
        FalseName x = new FalseName();
        due("ahead of any", x.fault(), 0);
        due("log(2)", x.log(2), -1000);
        due("still 0", x.fault(), 0);
        Check.sea(x, "parrot 13;");
        due("2", x.fault(), 2);
        due("log(-1)", x.log(-1), -1000);
        due("left", x.fault(), 2);
        Check.log(x, "sails a;", 0);
        due("3", x.fault(), 3);
        Check.log(x, "", 1);
        due("0 without one", x.fault(), 0);
        Check.sentence(x, "not ".repeat(8) + "here");
        due("4", x.fault(), 4);
        Check.register(x, 1);
        due("register() leaves it", x.fault(), 4);
        x.paint(9);
        x.image(0);
        x.restore(0);
        due("others leave it", x.fault(), 4);
        Check.sentence(x, "here");
        due("0 without one", x.fault(), 0);
        Check.sentence(x, "#");
        due("1", x.fault(), 1);
        Check.sea(x, "");
        due("0 without one", x.fault(), 0);
    }

    private static void portKnown() {
        Doc.says("Promise 6", "0 names that its office knows by now, as bits");
        FalseName x = Check.with("port a;port b;mail a b 5;" + SHIPS + "wanted sa a 1;wanted sh a 1;");
        due("from DAY 0 on", x.port(0, 0), 129);
        due("none yet", x.port(1, 0), 0);
        x.waits(4);
        due("a DAY ahead", x.port(1, 0), 0);
        x.waits(1);
        due("by now", x.port(1, 0), 129);
        StringBuilder all = new StringBuilder("port a;" + SHIPS);
        for (String ship : EIGHT_SHIPS) {
            all.append("wanted ").append(ship).append(" a 9;");
        }
        due("all eight", Check.with(all.toString()).port(0, 0), 255);
        FalseName other = Check.with("port z;" + all);
        due("not what the next one knows", other.port(0, 0), 0);
        due("the next one", other.port(1, 0), 255);
        due("the eighth PORT", Check.with(PORTS + SHIPS + "wanted sa h 1;wanted sh h 1;").port(7, 0), 129);
    }

    private static void portWanted() {
        Doc.says("Promise 6", "1 names that are WANTED there, as bits");
        FalseName x = Check.with("port a;port b;mail a b 1;" + SHIPS + "wanted sh a 1;wanted sa a 250;owed sb a 1;");
        due("the first and the eighth", x.port(0, 1), 129);
        x.waits(9);
        due("known by letter is not wanted", x.port(1, 1), 0);
    }

    private static void portCame() {
        Doc.says("Promise 6", "2 how often she came there");
        FalseName x = Check.with(PAIR);
        due("where she began: not yet", x.port(0, 2), 0);
        due("not there", x.port(1, 2), 0);
        for (int i = 1; i <= 3; i++) {
            x.sail(1);
            x.sail(0);
            due("there", x.port(1, 2), i);
            due("and back", x.port(0, 2), i);
        }
        x.sail(0);
        due("a refused one does not count", x.port(0, 2), 3);
        FalseName gone = RuleBoundaries.caught();
        due("caught, she came", gone.port(1, 2), 1);
    }

    private static void portRain() {
        Doc.says("Promise 6", "3 whether it rains there now (1, 0)");
        FalseName x = Check.with("port a;port b;ship s;rain a 0;rain a 99;rain b 50;");
        int[] days = {0, 1, 49, 50, 51, 98, 99, 100, 101, 150, 198, 199, 200, 998, 999};
        for (int day : days) {
            RuleBoundaries.waitTill(x, day);
            due("DAY " + day, x.port(0, 3), day % 100 == 0 || day % 100 == 99 ? 1 : 0);
            due("DAY " + day, x.port(1, 3), day % 100 == 50 ? 1 : 0);
        }
        due("no sea for her: DAY 0", Check.with("port a;rain a 0;").port(0, 3), 1);
    }

    private static void portWays() {
        Doc.says("Promise 6", "4 PORTS to which ways go, as bits");
        FalseName x = Check.with(PORTS + Texts.lines("way", "a b 1", "a c 1", "a d 1", "e a 1", "f a 1", "g a 1", "h a 20"));
        due("all others", x.port(0, 4), 254);
        due("back", x.port(7, 4), 1);
        due("none", Check.with(PORTS).port(7, 4), 0);
    }

    private static void portMails() {
        Doc.says("Promise 6", "5 PORTS from which mails come (at once), as bits");
        FalseName x = Check.with(PORTS + Texts.lines("mail", "a b 1", "b c 1", "h c 40"));
        due("at once, not by a row", x.port(2, 5), 130);
        due("from the first", x.port(1, 5), 1);
        due("none comes back", x.port(0, 5), 0);
        due("none", x.port(7, 5), 0);
    }

    private static void portThrows() {
        Doc.says("Promise 6", "NoSuchElementException: no such ones.");
        FalseName x = Check.with(PAIR);
        FalseName full = Check.with(PORTS);
        for (int i : ODD) {
            due("port(" + i + ", 0)", Check.throwsNoSuch(() -> x.port(i, 0)), true);
            due("port(0, " + i + ")", Check.throwsNoSuch(() -> x.port(0, i)), true);
            due("port(" + i + ", 0) of eight", Check.throwsNoSuch(() -> full.port(i, 0)), true);
        }
        due("port(2, 0)", Check.throwsNoSuch(() -> x.port(2, 0)), true);
        due("port(0, 6)", Check.throwsNoSuch(() -> x.port(0, 6)), true);
        due("port(1, 5)", Check.throwsNoSuch(() -> x.port(1, 5)), false);
        due("port(7, 5) of eight", Check.throwsNoSuch(() -> full.port(7, 5)), false);
        for (int what = 0; what < 6; what++) {
            int which = what;
            due("an empty SEA", Check.throwsNoSuch(() -> new FalseName().port(0, which)), true);
        }
    }

    private static void way() {
        Doc.says("Promise 7", "NONE: none, no such ones.");
        FalseName x = Check.with("port a;port b;port c;way a b 20;");
        due("a way", x.way(1, 0), 20);
        due("none", x.way(0, 2), -1);
        due("alike", x.way(1, 1), -1);
        due("way(3, 0)", x.way(3, 0), -1);
        due("way(0, 3)", x.way(0, 3), -1);
        for (int i : ODD) {
            due("way(" + i + ", 0)", x.way(i, 0), -1);
            due("way(0, " + i + ")", x.way(0, i), -1);
            due("way(" + i + ", " + i + ")", x.way(i, i), -1);
        }
        due("an empty SEA", new FalseName().way(0, 0), -1);
        due("the eighth", Check.with(PORTS + "way h a 1;").way(7, 0), 1);
    }

    private static void mail() {
        Doc.says("Promise 8", "NONE: none, no such ones.");
        FalseName x = Check.with("port a;port b;port c;mail a b 40;");
        due("a mail", x.mail(0, 1), 40);
        due("not back", x.mail(1, 0), -1);
        due("alike", x.mail(1, 1), -1);
        due("mail(3, 0)", x.mail(3, 0), -1);
        due("mail(0, 3)", x.mail(0, 3), -1);
        for (int i : ODD) {
            due("mail(" + i + ", 1)", x.mail(i, 1), -1);
            due("mail(0, " + i + ")", x.mail(0, i), -1);
            due("mail(" + i + ", " + i + ")", x.mail(i, i), -1);
        }
        due("an empty SEA", new FalseName().mail(0, 0), -1);
        due("the eighth", Check.with(PORTS + "mail h a 1;").mail(7, 0), 1);
    }

    private static void price() {
        Doc.says("Promise 9", "for at a PORT (0: nothing); NONE: no such ones.");
        FalseName x = Check.with("port a;port b;ship s;ship t;wanted s a 250;owed t b 1;");
        due("wanted", x.price(0, 0, 0), 250);
        due("owed", x.price(1, 1, 1), 1);
        due("nothing", x.price(0, 0, 1), 0);
        due("nothing", x.price(1, 1, 0), 0);
        due("price(2, 0, 0)", x.price(2, 0, 0), -1);
        due("price(0, 2, 0)", x.price(0, 2, 0), -1);
        due("price(0, 0, 2)", x.price(0, 0, 2), -1);
        for (int i : ODD) {
            due("price(" + i + ", 0, 0)", x.price(i, 0, 0), -1);
            due("price(0, " + i + ", 1)", x.price(0, i, 1), -1);
            due("price(0, 0, " + i + ")", x.price(0, 0, i), -1);
        }
        due("an empty SEA", new FalseName().price(0, 0, 0), -1);
        FalseName full = Check.with(PORTS + SHIPS + "wanted sh h 7;");
        due("the eighth", full.price(7, 7, 0), 7);
        due("no ninth", full.price(8, 7, 0), -1);
    }

    private static void priceTaken() {
        Doc.says("Promise 9", "OWED (1: not taken yet)");
        FalseName x = Check.with("port a;ship s;ship t;owed s a 250;owed t a 9;wanted s a 4;");
        due("owed", x.price(0, 0, 1), 250);
        x.takes();
        due("taken", x.price(0, 0, 1), 0);
        due("the other's not", x.price(1, 0, 1), 9);
        due("what is wanted stays", x.price(0, 0, 0), 4);
        x.undo();
        due("undone", x.price(0, 0, 1), 250);
    }

    private static void nowNone() {
        Doc.says("Promise 10", "1 the PORT (NONE: no sea for her), 2 her name (NONE), 3 the name ahead of it (NONE)");
        for (FalseName x : new FalseName[] {new FalseName(), Check.with("port a;"), Check.with("ship s;")}) {
            RuleBoundaries.nowIs(x, 0, -1, -1, -1, 0, 0, 0, 0);
        }
        FalseName x = Check.with("port a;ship s;ship t;");
        due("the PORT", x.now(1), 0);
        due("her name", x.now(2), 0);
        due("none ahead of it", x.now(3), -1);
        x.paint(1);
        due("her name", x.now(2), 1);
        due("ahead of it", x.now(3), 0);
        x.undo();
        due("none again", x.now(3), -1);
    }

    private static void nowHad() {
        Doc.says("Promise 10", "6 names that she has had, as bits");
        FalseName x = Check.with("port a;" + SHIPS);
        due("the first", x.now(6), 1);
        x.paint(7);
        due("and the eighth", x.now(6), 129);
        for (int s = 0; s < 7; s++) {
            x.paint(s);
        }
        due("all", x.now(6), 255);
    }

    private static void nowCounts() {
        Doc.says("Promise 10", "4 coin, 5 caught (1, 0)");
        FalseName x = Check.with("port a;port b;way a b 1;ship s;wanted s b 250;owed s a 1;");
        RuleBoundaries.nowIs(x, 0, 0, 0, -1, 0, 0, 1, 0);
        x.takes();
        due("coin", x.now(4), 1);
        x.sail(1);
        RuleBoundaries.nowIs(x, 1, 1, 0, -1, -249, 1, 1, 1);
    }

    private static void nowOther() {
        Doc.says("Promise 10", "7 voyages. NONE for another what.");
        FalseName x = Check.with(PAIR);
        for (int i : ODD) {
            due("now(" + i + ")", x.now(i), -1);
        }
        x.sail(0);
        due("a refused one is none", x.now(7), 0);
        x.sail(1);
        x.paint(1);
        x.waits(1);
        due("one", x.now(7), 1);
    }

    private static void paint() {
        Doc.says("Promise 11", "She is PAINTED as a SHIP: 0, or why not; NONE: no such one.");
        FalseName x = Check.with(PAIR + "role r;needs t r;");
        Looks.stay("paint() of no such one", x, () -> {
            for (int i : ODD) {
                due("paint(" + i + ")", x.paint(i), -1);
            }
            due("paint(2)", x.paint(2), -1);
        });
        Looks.stay("paint() that is refused", x, () -> {
            due("paint(0)", x.paint(0), 2);
            due("paint(1)", x.paint(1), 3);
        });
        due("nothing to undo", x.undo(), -1);
        due("caught: NONE still", RuleBoundaries.caught().paint(2), -1);
        due("an empty SEA", new FalseName().paint(0), -1);
        due("the eighth", Check.with("port a;" + SHIPS).paint(7), 0);
        due("no ninth", Check.with("port a;" + SHIPS).paint(8), -1);
    }

    private static void sail() {
        Doc.says("Promise 12", "She SAILS to a PORT: 0, or why not; NONE: no such one.");
        FalseName x = Check.with(PAIR + "port c;");
        Looks.stay("sail() to no such one", x, () -> {
            for (int i : ODD) {
                due("sail(" + i + ")", x.sail(i), -1);
            }
            due("sail(3)", x.sail(3), -1);
        });
        Looks.stay("sail() that is refused", x, () -> {
            due("sail(0)", x.sail(0), 2);
            due("sail(2)", x.sail(2), 2);
        });
        due("nothing to undo", x.undo(), -1);
        due("caught: NONE still", RuleBoundaries.caught().sail(2), -1);
        due("an empty SEA", new FalseName().sail(0), -1);
        FalseName full = Check.with(PORTS + "way a h 1;ship s;");
        due("the eighth", full.sail(7), 0);
        due("no ninth", full.sail(8), -1);
    }

    private static void waits() {
        Doc.says("Promise 13", "She WAITS n (1 to 60) DAYS: 0, or why not; NONE: not as told.");
        FalseName x = Check.with(PAIR);
        int[] wrong = {Integer.MIN_VALUE, -60, -1, 0, 61, 62, 1000, Integer.MAX_VALUE};
        Looks.stay("waits() not as told", x, () -> {
            for (int n : wrong) {
                due("waits(" + n + ")", x.waits(n), -1);
            }
        });
        due("nothing to undo", x.undo(), -1);
        due("waits(1)", x.waits(1), 0);
        due("waits(60)", x.waits(60), 0);
        due("DAY 61", x.now(0), 61);
        due("not as told, with no sea for her", new FalseName().waits(0), -1);
        due("not as told, with no sea for her", new FalseName().waits(61), -1);
        due("not as told, caught", RuleBoundaries.caught().waits(61), -1);
        RuleBoundaries.waitTill(x, 999);
        due("not as told, on DAY 999", x.waits(61), -1);
        due("longer than DAY 999", x.waits(60), 9);
    }

    private static void takes() {
        Doc.says("Promise 14", "She TAKES what is owed: 0, or why not.");
        FalseName x = Check.with(PAIR + "owed s a 250;owed t a 1;");
        due("takes()", x.takes(), 0);
        Looks.stay("takes() that is refused", x, () -> due("takes()", x.takes(), 2));
        due("one to undo", x.undo(), 0);
        due("no coin", x.now(4), 0);
        FalseName gone = RuleBoundaries.caught();
        Looks.stay("takes(), caught", gone, () -> due("takes()", gone.takes(), 1));
    }

    private static void learn() {
        Doc.says("Promise 15", "A MAN LEARNS a ROLE: 0, or why not; NONE: no such ones.");
        FalseName x = Check.with(PAIR + "role q;role r;man m q;man n;");
        Looks.stay("learn() of no such ones", x, () -> {
            for (int i : ODD) {
                due("learn(" + i + ", 0)", x.learn(i, 0), -1);
                due("learn(0, " + i + ")", x.learn(0, i), -1);
            }
            due("learn(2, 1)", x.learn(2, 1), -1);
            due("learn(1, 2)", x.learn(1, 2), -1);
        });
        Looks.stay("learn() that is refused", x, () -> due("learn(0, 0)", x.learn(0, 0), 2));
        due("nothing to undo", x.undo(), -1);
        due("caught: NONE still", RuleBoundaries.caught().learn(1, 0), -1);
        due("an empty SEA", new FalseName().learn(0, 0), -1);
        FalseName full = Check.with("port p;ship s;" + Texts.lines("role", "ra", "rb", "rc", "rd", "re", "rf")
            + Texts.lines("man", EIGHT));
        due("the last of each", full.learn(7, 5), 0);
        due("man(7)", full.man(7), 32);
        due("no seventh ROLE", full.learn(7, 6), -1);
        due("no ninth MAN", full.learn(8, 5), -1);
    }

    private static void undoneSorts() {
        Doc.says("Promise 16", "The latest of paint(), sail(), waits(), takes(), learn() that was done, drawn() above 0, "
            + "a LOG that was lived is undone");
        for (int which = 0; which < 7; which++) {
            FalseName x = Check.with(PAIR + "mail b a 1;owed s a 5;role r;man m;rain b 4;parrot 12;");
            String before = Looks.of(x).replaceAll("logged -?\\d+", "");
            due("act " + which, actDone(x, which), true);
            due("undo()", x.undo(), 0);
            // What logged() tells is not undone: it is of the latest log().
            due("all is as it was", Looks.of(x).replaceAll("logged -?\\d+", "").equals(before), true);
            due("no more", x.undo(), -1);
        }
        FalseName none = RuleBoundaries.caught();
        due("drawn() of 0", none.drawn(60, 1), 0);
        due("refused", none.waits(1), 1);
        due("a judged LOG", Check.log(none, "", 0), -1);
        due("an empty LOG", Check.log(none, "", 1), -1);
        due("a LOG of which no LINE was lived", Check.log(none, "waits 1;", 1), 0);
        due("the sail is the latest", none.undo(), 0);
        due("free", none.now(5), 0);
    }

    private static boolean actDone(FalseName x, int which) {
        return switch (which) {
            case 0 -> x.paint(1) == 0;
            case 1 -> x.sail(1) == 0;
            case 2 -> x.waits(60) == 0;
            case 3 -> x.takes() == 0;
            case 4 -> x.learn(0, 0) == 0;
            case 5 -> x.drawn(60, 1) > 0;
            default -> Check.log(x, "takes;m learns r;paints t;sails b;", 1) == -1;
        };
    }

    private static void undoKept() {
        Doc.says("Promise 16", "how many more can be (8 at most are kept)");
        for (int acts = 1; acts <= 11; acts++) {
            FalseName x = Check.with(PAIR);
            for (int i = 1; i <= acts; i++) {
                x.waits(i);
            }
            int kept = Math.min(8, acts);
            for (int left = kept - 1; left >= 0; left--) {
                due("undo() of " + acts, x.undo(), left);
                int stay = acts - kept + left;
                due("the DAY then", x.now(0), stay * (stay + 1) / 2);
            }
            due("none of " + acts + " is left", x.undo(), -1);
        }
        // Calls that do nothing, though they try, leave what is kept.
        FalseName tried = Check.with(PAIR);
        for (int i = 1; i <= 10; i++) {
            tried.waits(i);
            tried.odds(1, i);
            tried.sail(0);
            Check.log(tried, "waits 60;sails b;", 0);
        }
        for (int left = 7; left >= 0; left--) {
            due("undo()", tried.undo(), left);
            due("the DAY then", tried.now(0), (left + 2) * (left + 3) / 2);
            due("her PORT", tried.now(1), 0);
        }
        // What is done behind an undo() is kept in its place.
        FalseName x = Check.with(PAIR);
        for (int i = 0; i < 9; i++) {
            x.waits(1);
        }
        due("undo()", x.undo(), 7);
        x.waits(50);
        due("undo()", x.undo(), 7);
        due("DAY 8", x.now(0), 8);
    }

    private static void undoNone() {
        Doc.says("Promise 16", "NONE: none is.");
        FalseName x = Check.with(PAIR);
        Looks.stay("undo() of none", x, () -> due("undo()", x.undo(), -1));
        due("a new object", new FalseName().undo(), -1);
        x.sail(1);
        Check.sea(x, "#");
        due("a SEA with a FAULT leaves it", x.undo(), 0);
        x.sail(1);
        Check.sea(x, PAIR);
        due("a new SEA", x.undo(), -1);
    }

    private static void knows() {
        Doc.says("Promise 17", "The DAY from which on an office KNOWS a name, as it is now; NONE: never, no such ones.");
        FalseName x = Check.with(PAIR + "wanted t a 9;rain b 4;");
        due("never", x.knows(0, 0), -1);
        due("from DAY 0", x.knows(0, 1), 0);
        due("knows(2, 0)", x.knows(2, 0), -1);
        due("knows(0, 2)", x.knows(0, 2), -1);
        for (int i : ODD) {
            due("knows(" + i + ", 1)", x.knows(i, 1), -1);
            due("knows(0, " + i + ")", x.knows(0, i), -1);
        }
        x.paint(1);
        x.sail(1);
        due("as it is now", x.knows(1, 0), 4);
        x.undo();
        due("as it is now", x.knows(1, 0), -1);
        due("an empty SEA", new FalseName().knows(0, 0), -1);
        due("the last of each", Check.with(PORTS + SHIPS + "wanted sh h 1;").knows(7, 7), 0);
    }

    private static void first() {
        Doc.says("Promise 18",
            "The first PORT (of the earliest DAY, by numbers) that knows a name; NONE: none does, no such one.");
        FalseName x = Check.with("port a;port b;port c;port d;mail d a 1;ship s;ship t;ship u;"
            + "wanted s c 1;wanted s b 1;wanted t d 1;");
        due("of like DAYS by numbers", x.first(0), 1);
        due("the earliest DAY ahead of numbers", x.first(1), 3);
        due("PORT 0", Check.with("port a;port b;ship s;wanted s b 1;wanted s a 1;").first(0), 0);
        due("none does", x.first(2), -1);
        due("first(3)", x.first(3), -1);
        for (int i : ODD) {
            due("first(" + i + ")", x.first(i), -1);
        }
        due("no PORTS", Check.with("ship s;").first(0), -1);
        due("an empty SEA", new FalseName().first(0), -1);
        due("the last of each", Check.with(PORTS + SHIPS + "wanted sh h 1;").first(7), 7);
    }

    private static void far() {
        Doc.says("Promise 19", "FAR from a PORT to another; NONE: it can't be reached, no such ones.");
        FalseName x = Check.with("port a;port b;port c;port d;way a b 1;way c d 1;");
        due("can't be reached", x.far(0, 2), -1);
        due("can't be reached", x.far(3, 1), -1);
        due("itself", x.far(2, 2), 0);
        due("far(4, 4)", x.far(4, 4), -1);
        due("far(0, 4)", x.far(0, 4), -1);
        for (int i : ODD) {
            due("far(" + i + ", 0)", x.far(i, 0), -1);
            due("far(0, " + i + ")", x.far(0, i), -1);
            due("far(" + i + ", " + i + ")", x.far(i, i), -1);
        }
        due("an empty SEA", new FalseName().far(0, 0), -1);
    }

    private static void hears() {
        Doc.says("Promise 20",
            "The fewest DAYS of a row of mails from a PORT to another; NONE: there is none, no such ones, alike.");
        FalseName x = Check.with("port a;port b;port c;port d;mail a b 20;mail b c 20;mail a c 40;mail c a 1;");
        due("as few by the row", x.hears(0, 2), 40);
        due("back by another", x.hears(1, 0), 21);
        due("none", x.hears(0, 3), -1);
        due("alike, with a round of mails", x.hears(0, 0), -1);
        due("alike", x.hears(3, 3), -1);
        due("hears(4, 0)", x.hears(4, 0), -1);
        due("hears(0, 4)", x.hears(0, 4), -1);
        for (int i : ODD) {
            due("hears(" + i + ", 0)", x.hears(i, 0), -1);
            due("hears(0, " + i + ")", x.hears(0, i), -1);
        }
        due("by the first PORT", x.hears(2, 1), 21);
        due("fewer by the row", Check.with("port a;port b;port c;mail a b 1;mail b c 1;mail a c 3;").hears(0, 2), 2);
    }

    private static void safeNames() {
        Doc.says("Promise 21",
            "Names under which she would not be caught, if she sailed now to a PORT by the way (painted or not), "
            + "as bits");
        String text = "port a;port b;port c;way a b 5;way a c 2;way c b 1;mail c b 5;" + SHIPS
            + "wanted sh c 1;wanted sb b 1;";
        FalseName x = Check.with(text + "role r;needs sc r;");
        due("known on that very DAY, painted or not, played or not", x.safe(1), 255 - 128 - 2);
        due("known there", x.safe(2), 127);
        FalseName later = Check.with(text.replace("mail c b 5", "mail c b 6"));
        due("known a DAY later", later.safe(1), 255 - 2);
        later.waits(1);
        due("now no more", later.safe(1), 255 - 128 - 2);
        due("none", Check.with("port a;port b;way a b 1;ship s;wanted s b 1;").safe(1), 0);
        due("all", Check.with("port a;port b;way a b 20;" + SHIPS).safe(1), 255);
    }

    private static void safeNone() {
        Doc.says("Promise 21", "NONE: no way there, no such one, she is caught, no sea for her.");
        FalseName x = Check.with("port a;port b;port c;way a b 1;way b c 1;ship s;");
        due("no way", x.safe(2), -1);
        due("where she is", x.safe(0), -1);
        due("safe(3)", x.safe(3), -1);
        for (int i : ODD) {
            due("safe(" + i + ")", x.safe(i), -1);
        }
        due("caught", RuleBoundaries.caught().safe(0), -1);
        due("no SHIP", Check.with("port a;port b;way a b 1;").safe(1), -1);
        due("an empty SEA", new FalseName().safe(0), -1);
    }

    private static void outruns() {
        Doc.says("Promise 22", "OUTRUNS: 1, 0; NONE: it can't be reached, no such one, no sea for her.");
        FalseName x = Check.with("port a;port b;port c;way a b 1;ship s;wanted s b 1;");
        due("where she is", x.outruns(0), 1);
        due("known there", x.outruns(1), 0);
        due("can't be reached", x.outruns(2), -1);
        due("outruns(3)", x.outruns(3), -1);
        for (int i : ODD) {
            due("outruns(" + i + ")", x.outruns(i), -1);
        }
        due("no SHIP", Check.with("port a;").outruns(0), -1);
        due("an empty SEA", new FalseName().outruns(0), -1);
        // Caught is not told among them.
        FalseName gone = RuleBoundaries.caught();
        due("caught: where she is", gone.outruns(1), 0);
        due("caught: elsewhere", gone.outruns(0), 1);
    }
}
