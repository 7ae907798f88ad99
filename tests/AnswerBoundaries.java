/** The boundary cases of promises 23 to 44. */
final class AnswerBoundaries {
    private static final int[] ODD = PromiseBoundaries.ODD;
    private static final String[] EIGHT = PromiseBoundaries.EIGHT;
    private static final String[] SHIPS = PromiseBoundaries.EIGHT_SHIPS;
    /** A SHIP that needs all six ROLES. */
    private static final String SIX = "ship s;" + Texts.lines("role", "u", "v", "w", "x", "y", "z")
        + Texts.lines("needs", "s u", "s v", "s w", "s x", "s y", "s z");
    private static final String PAIR = "port a;port b;way a b 3;ship s;ship t;";

    private AnswerBoundaries() {
    }

    static void all() {
        names();
        nameOf();
        register();
        lacks();
        plays();
        man();
        needs();
        over();
        mixed();
        net();
        netTaken();
        lasts();
        soonestHere();
        soonestNone();
        where();
        drawnTried();
        drawnNone();
        oddsSeeds();
        oddsNone();
        logLives();
        logWrong();
        logFault();
        logOther();
        loggedLatest();
        loggedWhy();
        loggedLate();
        loggedRest();
        loggedNone();
        sentenceOnes();
        sentenceFault();
        saidWhich();
        saidNone();
        imagePlaces();
        restored();
        restoreFalse();
        counts();
        countOther();
    }

    private static void due(String call, long got, long want) {
        Check.due(call, got, want);
    }

    private static void due(String call, boolean got, boolean want) {
        Check.due(call, got, want);
    }

    private static void names() {
        Doc.says("Promise 23", "NAMES: how many.");
        due("an empty SEA", new FalseName().names(), 0);
        due("no PORTS", Check.with("ship s;").names(), 0);
        due("one PORT", Check.with("port a;").names(), 1);
        for (int many = 2; many <= 8; many++) {
            StringBuilder text = new StringBuilder("port a;");
            for (int p = 1; p < many; p++) {
                text.append("port ").append(EIGHT[p]).append(";mail ").append(EIGHT[p - 1]).append(' ').append(EIGHT[p])
                    .append(" 1;");
            }
            due("a row of " + many, Check.with(text.toString()).names(), many);
        }
        due("SHIPS do not matter", Check.with("port a;port b;mail a b 1;" + Texts.lines("ship", "s")).names(), 2);
    }

    private static void nameOf() {
        Doc.says("Promise 24", "Which of them a PORT has; NONE: no such one.");
        FalseName x = Check.with("port a;port b;mail a b 1;");
        due("nameOf(0)", x.nameOf(0), 0);
        due("nameOf(1)", x.nameOf(1), 1);
        due("nameOf(2)", x.nameOf(2), -1);
        for (int i : ODD) {
            due("nameOf(" + i + ")", x.nameOf(i), -1);
        }
        due("an empty SEA", new FalseName().nameOf(0), -1);
        due("of the SEA that is now", Check.sea(x, "port a;port b;"), 2);
        due("nameOf(1)", x.nameOf(1), 0);
        due("fewer PORTS", Check.sea(x, "port a;"), 1);
        due("nameOf(1)", x.nameOf(1), -1);
    }

    private static void register() {
        Doc.says("Promise 25", "REGISTER: how many ships; NONE: not as told (2 to 10 pairs, PORTS).");
        FalseName x = Check.with("port a;port b;");
        int[] sizes = {0, 1, 2, 3, 5, 7, 19, 21, 22, 24, 40, 940};
        for (int size : sizes) {
            due(size + " bytes", Check.register(x, new int[size]), -1);
        }
        for (int pairs = 2; pairs <= 10; pairs++) {
            due(pairs + " pairs", Check.register(x, new int[2 * pairs]), 1);
        }
        for (int port : new int[] {2, 7, 8, 127, 128, 254, 255}) {
            due("first PORT " + port, Check.register(x, port, 0, 0, 0), -1);
            due("last PORT " + port, Check.register(x, 0, 0, 1, 0, port, 0), -1);
        }
        due("any DAY", Check.register(x, 0, 128, 1, 255), 2);
        due("an empty SEA", Check.register(new FalseName(), 0, 0, 0, 0), -1);
        Looks.stay("register()", x, () -> Check.register(x, 0, 0, 1, 9));
        FalseName full = Check.with(Texts.lines("port", EIGHT));
        due("eight PORTS, two of them twice",
            Check.register(full, 0, 0, 1, 0, 2, 0, 3, 0, 4, 0, 5, 0, 6, 0, 7, 0, 0, 9, 7, 9), 8);
    }

    private static void lacks() {
        Doc.says("Promise 26", "ROLES that must be learnt for a name; NONE: there are not as many MEN, no such one.");
        String start = "ship s;ship t;role q;role r;needs s q;needs s r;";
        due("no ROLES and no MEN", Check.with(start).lacks(1), 0);
        due("no MEN", Check.with(start).lacks(0), -1);
        due("one fewer", Check.with(start + "man m q r;").lacks(0), -1);
        due("as many", Check.with(start + "man m q r;man n;").lacks(0), 1);
        due("more", Check.with(start + "man m;man n;man o;").lacks(0), 2);
        FalseName x = Check.with(start + "man m q;man n r;");
        due("none", x.lacks(0), 0);
        due("lacks(2)", x.lacks(2), -1);
        for (int i : ODD) {
            due("lacks(" + i + ")", x.lacks(i), -1);
        }
        due("an empty SEA", new FalseName().lacks(0), -1);
        due("six of six", Check.with(SIX + Texts.lines("man", "ma", "mb", "mc", "md", "me", "mf")).lacks(0), 6);
        due("five MEN for six", Check.with(SIX + Texts.lines("man", "ma u", "mb v", "mc w", "md x", "me y z")).lacks(0), -1);
    }

    private static void plays() {
        Doc.says("Promise 27", "Who plays the k-th ROLE (from 0) that a name needs by that; NONE: none such.");
        String start = "ship s;ship t;role p;role q;role r;needs s r;needs s q;";
        FalseName x = Check.with(start + "man m r;man n q;");
        due("the first that it needs", x.plays(0, 0), 1);
        due("the second", x.plays(0, 1), 0);
        due("no third", x.plays(0, 2), -1);
        due("needs none", x.plays(1, 0), -1);
        for (int i : ODD) {
            due("plays(" + i + ", 0)", x.plays(i, 0), -1);
            due("plays(0, " + i + ")", x.plays(0, i), -1);
        }
        due("plays(2, 0)", x.plays(2, 0), -1);
        FalseName few = Check.with(start + "man m q r;");
        due("not as many MEN", few.plays(0, 0), -1);
        due("not as many MEN", few.plays(0, 1), -1);
        due("an empty SEA", new FalseName().plays(0, 0), -1);
        FalseName six = Check.with(SIX + Texts.lines("man", "ma", "mb", "mc", "md", "me", "mf", "mg", "mh z"));
        due("the sixth, by the eighth MAN", six.plays(0, 5), 7);
        due("no seventh", six.plays(0, 6), -1);
    }

    private static void man() {
        Doc.says("Promise 28", "ROLES that a MAN knows, as bits; NONE: no such one.");
        FalseName x = Check.with(Texts.lines("role", "u", "v", "w", "x", "y", "z") + Texts.lines("man", "ma", "mb u", "mc z",
            "md u v w x y z", "me", "mf", "mg", "mh y z"));
        int[] want = {0, 1, 32, 63, 0, 0, 0, 48};
        for (int m = 0; m < 8; m++) {
            due("man(" + m + ")", x.man(m), want[m]);
        }
        for (int i : ODD) {
            due("man(" + i + ")", x.man(i), -1);
        }
        FalseName one = Check.with("man m;");
        due("man(0)", one.man(0), 0);
        due("man(1)", one.man(1), -1);
        due("an empty SEA", new FalseName().man(0), -1);
    }

    private static void needs() {
        Doc.says("Promise 29", "ROLES that a name needs, as bits; NONE: no such one.");
        FalseName x = Check.with(Texts.lines("role", "u", "v", "w", "x", "y", "z") + Texts.lines("ship", SHIPS)
            + Texts.lines("needs", "sa u", "sb z", "sh z", "sh u", "sh v", "sh w", "sh x", "sh y"));
        int[] want = {1, 32, 0, 0, 0, 0, 0, 63};
        for (int s = 0; s < 8; s++) {
            due("needs(" + s + ")", x.needs(s), want[s]);
        }
        for (int i : ODD) {
            due("needs(" + i + ")", x.needs(i), -1);
        }
        FalseName one = Check.with("ship s;");
        due("needs(0)", one.needs(0), 0);
        due("needs(1)", one.needs(1), -1);
        due("an empty SEA", new FalseName().needs(0), -1);
    }

    private static void over() {
        Doc.says("Promise 30",
            "Which name comes of one painted OVER another: the SHIP; NONE: none of hers, no such ones, alike.");
        FalseName x = Check.with("ship ab;ship ba;ship bb;ship c;port ca;");
        due("a third", x.over(0, 1), 2);
        due("the other way", x.over(1, 0), 2);
        due("one of the two", x.over(0, 2), 2);
        due("a PORT's name is none of hers", x.over(1, 3), -1);
        due("none of hers", x.over(0, 3), -1);
        for (int s = 0; s < 4; s++) {
            due("alike", x.over(s, s), -1);
            due("over(" + s + ", 4)", x.over(s, 4), -1);
            due("over(4, " + s + ")", x.over(4, s), -1);
        }
        for (int i : ODD) {
            due("over(" + i + ", 0)", x.over(i, 0), -1);
            due("over(0, " + i + ")", x.over(0, i), -1);
            due("over(" + i + ", " + i + ")", x.over(i, i), -1);
        }
        due("an empty SEA", new FalseName().over(0, 1), -1);
    }

    private static void mixed() {
        Doc.says("Promise 31",
            "Pairs of names (the first OVER the second, or the second over the first: alike) that give a third "
            + "one: how many (k NONE), or the k-th: 10 times the lesser and the greater. NONE: none such.");
        due("an empty SEA", new FalseName().mixed(-1), 0);
        due("an empty SEA", new FalseName().mixed(0), -1);
        FalseName two = Check.with("ship a;ship b;");
        due("one of the two is no third", two.mixed(-1), 0);
        due("none such", two.mixed(0), -1);
        // The second and the third give the first; the last two give none of hers, others one of the two.
        FalseName x = Check.with("ship zz;ship az;ship za;ship b;ship c;ship d;ship aza;ship zaa;");
        due("mixed(-1)", x.mixed(-1), 1);
        due("mixed(0)", x.mixed(0), 12);
        due("mixed(1)", x.mixed(1), -1);
        FalseName last = Check.with("ship zz;ship a;ship b;ship c;ship d;ship e;ship az;ship za;");
        due("mixed(-1)", last.mixed(-1), 1);
        due("the last two", last.mixed(0), 67);
        for (int i : ODD) {
            if (i != -1) {
                due("mixed(" + i + ")", last.mixed(i), -1);
            }
        }
        FalseName many = Check.with("ship ac;ship ca;ship cc;ship ab;ship ba;ship bb;ship bc;");
        int[] want = {1, 4, 5, 16, 34, -1};
        due("mixed(-1)", many.mixed(-1), 5);
        for (int k = 0; k < 6; k++) {
            due("mixed(" + k + ")", many.mixed(k), want[k]);
        }
    }

    private static void net() {
        Doc.says("Promise 32", "NoSuchElementException: no such one.");
        FalseName x = Check.with("port a;ship s;ship t;wanted s a 250;owed t a 250;");
        due("net(0)", x.net(0), -250);
        due("net(1)", x.net(1), 250);
        due("net(2)", Check.throwsNoSuch(() -> x.net(2)), true);
        for (int i : ODD) {
            due("net(" + i + ")", Check.throwsNoSuch(() -> x.net(i)), true);
        }
        due("an empty SEA", Check.throwsNoSuch(() -> new FalseName().net(0)), true);
        due("no PORTS", Check.with("ship s;").net(0), 0);
    }

    private static void netTaken() {
        Doc.says("Promise 32", "What is owed to a name in all (not taken yet) less what it is WANTED for in all");
        StringBuilder text = new StringBuilder(Texts.lines("port", EIGHT) + "ship s;ship t;");
        for (String p : EIGHT) {
            text.append("owed s ").append(p).append(" 250;wanted t ").append(p).append(" 250;");
        }
        FalseName x = Check.with(text.toString());
        due("all is owed", x.net(0), 2000);
        due("for all it is wanted", x.net(1), -2000);
        x.takes();
        due("one is taken", x.net(0), 1750);
        x.undo();
        due("it is not", x.net(0), 2000);
    }

    private static void lasts() {
        Doc.says("Promise 33", "LASTS for n PORTS (0 to 6). NoSuchElementException: no such ones.");
        FalseName x = Check.with("parrot 6;");
        due("lasts(0, 0)", x.lasts(0, 0), 1);
        due("lasts(0, 1)", x.lasts(0, 1), 1);
        due("lasts(6, 0)", x.lasts(6, 0), 1);
        due("lasts(6, 1)", x.lasts(6, 1), 64);
        for (int i : ODD) {
            due("lasts(" + i + ", 0)", Check.throwsNoSuch(() -> x.lasts(i, 0)), true);
            due("lasts(0, " + i + ")", Check.throwsNoSuch(() -> x.lasts(0, i)), true);
        }
        due("lasts(7, 1)", Check.throwsNoSuch(() -> x.lasts(7, 1)), true);
        due("lasts(6, 2)", Check.throwsNoSuch(() -> x.lasts(6, 2)), true);
        due("an empty SEA", new FalseName().lasts(6, 1), 1);
    }

    private static void soonestHere() {
        Doc.says("Promise 34",
            "The soonest DAY on which she can be at a PORT where something is owed to the name that she has and is not taken, "
            + "and would not be caught there (by FAR, whatever is on the way; where she is: now, she is there)");
        FalseName here = Check.with("port a;port b;way a b 1;ship s;wanted s a 5;wanted s b 5;owed s a 5;owed s b 5;");
        due("where she is she is not caught, though she is known", here.soonest(), 0);
        here.waits(7);
        due("now", here.soonest(), 7);
        here.takes();
        due("there she would be", here.soonest(), -1);
        String text = "port a;port b;port c;way a b 2;way b c 2;mail b c 5;ship s;wanted s b 1;owed s c 7;";
        FalseName far = Check.with(text);
        due("whatever is on the way", far.soonest(), 4);
        far.waits(1);
        due("on the very DAY on which she is known", far.soonest(), -1);
        due("where()", far.where(), -1);
    }

    private static void soonestNone() {
        Doc.says("Promise 34", "NONE: none, she is caught, no sea for her.");
        due("nothing is owed", Check.with(PAIR).soonest(), -1);
        due("to another name", Check.with(PAIR + "owed t a 5;").soonest(), -1);
        due("can't be reached", Check.with(PAIR + "port c;owed s c 5;").soonest(), -1);
        FalseName taken = Check.with(PAIR + "owed s a 5;");
        due("soonest()", taken.soonest(), 0);
        taken.takes();
        due("it is taken", taken.soonest(), -1);
        FalseName gone = RuleBoundaries.caught();
        due("owed there", gone.price(0, 1, 1), 7);
        due("caught", gone.soonest(), -1);
        due("no PORT", Check.with("ship s;").soonest(), -1);
        due("no SHIP", Check.with("port a;").soonest(), -1);
        due("an empty SEA", new FalseName().soonest(), -1);
    }

    private static void where() {
        Doc.says("Promise 35", "That PORT (of like ones the first); NONE: likewise.");
        FalseName x = Check.with("port a;port b;port c;port d;way a d 2;way a c 2;way a b 3;ship s;"
            + "owed s b 1;owed s c 1;owed s d 250;");
        due("of like ones the first", x.where(), 2);
        due("soonest()", x.soonest(), 2);
        x.sail(3);
        due("where she is", x.where(), 3);
        due("nothing is owed", Check.with(PAIR).where(), -1);
        due("caught", RuleBoundaries.caught().where(), -1);
        due("no sea for her", Check.with("port a;").where(), -1);
        due("an empty SEA", new FalseName().where(), -1);
        due("the eighth", Check.with(Texts.lines("port", EIGHT) + "way a h 1;ship s;owed s h 1;").where(), 7);
    }

    private static void drawnTried() {
        Doc.says("Promise 36", "n (1 to 60) voyages DRAWN by a seed: how many were tried (till she is caught)");
        FalseName x = Check.with("port a;ship s;");
        due("one", x.drawn(1, 0), 1);
        due("60", x.drawn(60, Integer.MIN_VALUE), 60);
        due("two to undo", x.undo(), 1);
        // All but the first PORT are known: the first voyage that she sails is the last.
        FalseName gone = Check.with("port a;port b;way a b 1;ship s;wanted s b 1;");
        int tried = gone.drawn(60, 8);
        due("the one by which she is caught counts", tried >= 1 && tried < 60, true);
        due("caught", gone.now(5), 1);
        due("one voyage", gone.now(7), 1);
        gone.undo();
        if (tried > 1) {
            due("one fewer", gone.drawn(tried - 1, 8), tried - 1);
            due("not caught yet", gone.now(5), 0);
            gone.undo();
        }
        due("as many", gone.drawn(tried, 8), tried);
        due("caught", gone.now(5), 1);
    }

    private static void drawnNone() {
        Doc.says("Promise 36", "NONE: not as told, no sea for her; 0: she is caught.");
        FalseName x = Check.with(PAIR);
        Looks.stay("drawn() not as told", x, () -> {
            for (int n : new int[] {Integer.MIN_VALUE, -1, 0, 61, 62, Integer.MAX_VALUE}) {
                due("drawn(" + n + ", 1)", x.drawn(n, 1), -1);
            }
        });
        due("nothing to undo", x.undo(), -1);
        due("no PORT", Check.with("ship s;").drawn(1, 1), -1);
        due("no SHIP", Check.with("port a;").drawn(60, 1), -1);
        due("an empty SEA", new FalseName().drawn(1, 1), -1);
        FalseName gone = RuleBoundaries.caught();
        Looks.stay("drawn(), caught", gone, () -> {
            due("caught", gone.drawn(1, 1), 0);
            due("caught", gone.drawn(60, 1), 0);
            due("not as told, caught", gone.drawn(0, 1), -1);
            due("not as told, caught", gone.drawn(61, 1), -1);
        });
    }

    private static void oddsSeeds() {
        Doc.says("Promise 37",
            "Of n (1 to 30) seeds x, x and 1, .. by how many she is not caught in 10 voyages DRAWN from now on");
        FalseName x = Check.with("port a;port b;port c;way a b 1;way b c 1;mail b c 3;ship s;ship t;parrot 4;rain b 2;");
        x.waits(2);
        // Seeds go on from the highest int to the lowest.
        int[] firsts = {Integer.MAX_VALUE - 3, Integer.MAX_VALUE, Integer.MIN_VALUE, -5, 0};
        for (int first : firsts) {
            int free = 0;
            int caught = 0;
            for (int i = 0; i < 30; i++) {
                due("drawn(10, ..)", x.drawn(10, first + i) >= 1, true);
                free += 1 - x.now(5);
                caught += x.now(5);
                x.undo();
                if (i == 0) {
                    due("odds(1, " + first + ")", x.odds(1, first), free);
                }
            }
            due("some are caught, some not", free > 0 && caught > 0, true);
            due("odds(30, " + first + ")", x.odds(30, first), free);
            x = Check.with("port a;port b;port c;way a b 1;way b c 1;mail b c 3;ship s;ship t;parrot 4;rain b 2;");
            x.waits(2);
        }
        FalseName still = x;
        Looks.stay("odds()", still, () -> still.odds(30, 7));
        due("only the wait to undo", still.undo(), 0);
        due("she can't be caught", Check.with("port a;ship s;").odds(30, 1), 30);
        due("caught already", RuleBoundaries.caught().odds(30, 1), 0);
    }

    private static void oddsNone() {
        Doc.says("Promise 37", "NONE: not as told, no sea for her.");
        FalseName x = Check.with(PAIR);
        for (int n : new int[] {Integer.MIN_VALUE, -1, 0, 31, 32, Integer.MAX_VALUE}) {
            due("odds(" + n + ", 1)", x.odds(n, 1), -1);
            due("caught: odds(" + n + ", 1)", RuleBoundaries.caught().odds(n, 1), -1);
        }
        due("odds(1, 1)", x.odds(1, 1), 1);
        due("no PORT", Check.with("ship s;").odds(1, 1), -1);
        due("no SHIP", Check.with("port a;").odds(30, 1), -1);
        due("an empty SEA", new FalseName().odds(1, 1), -1);
    }

    private static void logLives() {
        Doc.says("Promise 38",
            "The tape is a LOG: it is judged, all staying as it is (lives 0), or lived as far as it is not WRONG (1)");
        String text = "takes;waits 60;paints t;sails b;m learns r;sails b;waits 1;";
        FalseName x = Check.with(PAIR + "owed s a 5;role r;man m;");
        due("judged", Check.log(x, text, 0), 5);
        RuleBoundaries.nowIs(x, 0, 0, 0, -1, 0, 0, 1, 0);
        due("nothing is taken", x.price(0, 0, 1), 5);
        due("nothing is learnt", x.man(0), 0);
        due("nothing to undo", x.undo(), -1);
        due("lived", Check.log(x, text, 1), 5);
        // What is behind the LINE that is WRONG is not lived.
        RuleBoundaries.nowIs(x, 67, 1, 1, 0, 5, 0, 3, 1);
        due("taken", x.price(0, 0, 1), 0);
        due("learnt", x.man(0), 1);
        due("undone as one", x.undo(), 0);
        RuleBoundaries.nowIs(x, 0, 0, 0, -1, 0, 0, 1, 0);
        due("40 LINES", Check.log(x, "waits 1;".repeat(40), 1), -1);
        due("undone as one", x.undo(), 0);
        due("an empty LOG", Check.log(x, "", 1), -1);
        due("nothing of it to undo", x.undo(), -1);
    }

    private static void logWrong() {
        Doc.says("Promise 38", "the LINE that is WRONG; NONE: none");
        FalseName x = Check.with(PAIR);
        due("the first", Check.log(x, "sails a;waits 1;", 0), 0);
        due("the second", Check.log(x, "waits 1;takes;", 0), 1);
        due("the 40th", Check.log(x, "waits 1;".repeat(39) + "takes;", 0), 39);
        due("the first of two", Check.log(x, "takes;takes;", 0), 0);
        due("none of 40", Check.log(x, "waits 1;".repeat(40), 0), -1);
        due("none of none", Check.log(x, "", 0), -1);
        due("no sea for her", Check.log(new FalseName(), "waits 1;", 1), 0);
        due("no sea for her, and no LINE", Check.log(new FalseName(), "", 1), -1);
        due("caught", Check.log(RuleBoundaries.caught(), "waits 1;", 1), 0);
    }

    private static void logFault() {
        Doc.says("Promise 38", "-2 less the place of a FAULT");
        FalseName x = Check.with(PAIR);
        Looks.stay("log() with a FAULT", x, () -> {
            for (int lives = 0; lives <= 1; lives++) {
                due("the first byte", Check.log(x, "#", lives), -2);
                due("the second", Check.log(x, " #", lives), -3);
                due("the end", Check.log(x, "waits 1;waits 1", lives), -17);
                due("behind a LINE that is WRONG", Check.log(x, "takes;#", lives), -8);
                due("the 400th", Check.log(x, Texts.padded("", 399) + "#", lives), -401);
                due("too long", Check.log(x, Texts.padded("", 940), lives), -402);
            }
        });
        due("nothing to undo", x.undo(), -1);
    }

    private static void logOther() {
        Doc.says("Promise 38", "-1000: another lives (the tape stays).");
        FalseName x = Check.with(PAIR);
        Check.log(x, "waits 1;takes;", 0);
        Check.put(x, "waits 9;");
        Looks.stay("another lives", x, () -> {
            for (int lives : ODD) {
                due("log(" + lives + ")", x.log(lives), -1000);
            }
            due("log(2)", x.log(2), -1000);
        });
        due("the tape stays", x.count(7), 8);
        due("and is a LOG still", x.log(1), -1);
        due("DAY 9", x.now(0), 9);
    }

    private static void loggedLatest() {
        Doc.says("Promise 39", "Of the latest log() that had no FAULT (and was not -1000)");
        FalseName x = Check.with(PAIR);
        Check.log(x, "waits 7;takes;", 0);
        loggedIs(x, 32, 1, 7, 0);
        Check.log(x, "#", 0);
        loggedIs(x, 32, 1, 7, 0);
        x.log(2);
        loggedIs(x, 32, 1, 7, 0);
        x.sail(1);
        x.undo();
        Check.sea(x, PAIR);
        x.image(0);
        x.restore(0);
        loggedIs(x, 32, 1, 7, 0);
        Check.log(x, "", 0);
        loggedIs(x, 0, 0, 0, 0);
    }

    private static void loggedIs(FalseName x, int... want) {
        for (int what = 0; what < 4; what++) {
            due("logged(" + what + ")", x.logged(what), want[what]);
        }
    }

    private static void judged(FalseName x, String text, int... want) {
        Check.log(x, text, 0);
        for (int what = 0; what < 4; what++) {
            due("logged(" + what + ") of '" + text + "'", x.logged(what), want[what]);
        }
    }

    private static void loggedWhy() {
        Doc.says("Promise 39", "0 why it was WRONG (0: it was not; as for painting, 10 more as for sailing, 20 for waiting, "
            + "30 for taking, 40 for learning;");
        FalseName x = Check.with(PAIR + "wanted s b 1;role r;needs t r;man m;man n r;");
        judged(x, "waits 1;", 0, 1, 1, 0);
        judged(x, "paints s;", 2, 0, 0, 0);
        judged(x, "paints t;paints t;", 2, 1, 1, 0);
        judged(x, "sails a;", 12, 0, 0, 0);
        judged(x, "takes;", 32, 0, 0, 0);
        judged(x, "n learns r;", 42, 0, 0, 0);
        FalseName unplayed = Check.with(PAIR + "role r;needs t r;man m;");
        judged(unplayed, "paints t;", 3, 0, 0, 0);
        judged(unplayed, "m learns r;paints t;", 0, 2, 4, 0);
        String[] acts = {"paints s;", "sails a;", "waits 1;", "takes;", "m learns r;"};
        for (int i = 0; i < acts.length; i++) {
            judged(x, "sails b;" + acts[i], 10 * i + 1, 1, 3, 1);
        }
        // Without PORTS no PORT can be named; the other acts are WRONG for want of a sea for her.
        FalseName none = Check.with("ship s;role r;man m;");
        int[] why = {1, 0, 21, 31, 41};
        for (int i = 0; i < acts.length; i++) {
            if (i != 1) {
                judged(none, acts[i], why[i], 0, 0, 0);
            }
        }
        judged(Check.with("port a;"), "sails a;", 11, 0, 0, 0);
    }

    private static void loggedLate() {
        Doc.says("Promise 39", "9 more than its sort instead: longer than DAY 999)");
        FalseName x = Check.with(PAIR + "owed s a 5;role r;man m;");
        RuleBoundaries.waitTill(x, 999);
        judged(x, "paints t;", 9, 0, 999, 0);
        judged(x, "sails b;", 19, 0, 999, 0);
        judged(x, "waits 1;", 29, 0, 999, 0);
        judged(x, "m learns r;", 49, 0, 999, 0);
        judged(x, "takes;", 0, 1, 999, 0);
        judged(x, "paints s;", 2, 0, 999, 0);
        x.undo();
        RuleBoundaries.waitTill(x, 996);
        judged(x, "sails b;paints s;", 2, 1, 999, 0);
        judged(x, "m learns r;waits 1;", 29, 1, 999, 0);
        judged(x, "waits 3;", 0, 1, 999, 0);
        judged(x, "waits 4;", 29, 0, 996, 0);
        judged(x, "waits 1;sails b;", 19, 1, 997, 0);
    }

    private static void loggedRest() {
        Doc.says("Promise 39", "1 LINES that are not, 2 the DAY then, 3 whether she is caught then (1, 0).");
        FalseName x = Check.with(PAIR + "wanted s b 1;");
        judged(x, "", 0, 0, 0, 0);
        judged(x, "waits 1;".repeat(40), 0, 40, 40, 0);
        judged(x, "waits 60;".repeat(16) + "waits 39;waits 1;", 29, 17, 999, 0);
        judged(x, "waits 5;sails b;", 0, 2, 8, 1);
        judged(x, "waits 5;sails b;waits 1;waits 1;", 21, 2, 8, 1);
        due("not now", x.now(5), 0);
        FalseName gone = RuleBoundaries.caught();
        judged(gone, "", 0, 0, 1, 1);
    }

    private static void loggedNone() {
        Doc.says("Promise 39", "NONE: another what, or ahead of any.");
        FalseName x = new FalseName();
        for (int what = -1; what < 5; what++) {
            due("ahead of any", x.logged(what), -1);
        }
        Check.log(x, "#", 0);
        x.log(2);
        due("a FAULT and another lives are none", x.logged(0), -1);
        Check.log(x, "", 0);
        due("an empty one", x.logged(0), 0);
        due("logged(4)", x.logged(4), -1);
        for (int i : ODD) {
            due("logged(" + i + ")", x.logged(i), -1);
        }
    }

    private static void sentenceOnes() {
        Doc.says("Promise 40", "The tape is the SENTENCE now: how many ONES (each not, bracket and other one)");
        Texts.sentenceIs("here", 1);
        Texts.sentenceIs("not here", 2);
        Texts.sentenceIs("(here)", 2);
        Texts.sentenceIs("not(here)", 3);
        Texts.sentenceIs("here or been and safe", 3);
        Texts.sentenceIs("(here or been)and knows s", 4);
        Texts.sentenceIs("far<1 or names>1 or number=1 or hears a", 4);
        Texts.sentenceIs("here or ".repeat(19) + "here", 20);
        FalseName x = Texts.sentenceIs("here", 1);
        due("the one ahead is gone", Check.sentence(x, "not here"), 2);
        due("said(-1)", x.said(-1), 2);
    }

    private static void sentenceFault() {
        Doc.says("Promise 40", "-1 less the place of a FAULT: it stays.");
        FalseName x = Check.with(PAIR);
        Check.sentence(x, "not here");
        Looks.stay("sentence() with a FAULT", x, () -> {
            due("an empty one", Check.sentence(x, ""), -1);
            due("the first byte", Check.sentence(x, "#"), -1);
            due("the second", Check.sentence(x, " #"), -2);
            due("the end", Check.sentence(x, "here and"), -9);
            due("the 200th", Check.sentence(x, Texts.padded("here", 199) + "#"), -200);
            due("too long", Check.sentence(x, Texts.padded("here", 201)), -201);
            due("too long by far", Check.sentence(x, Texts.padded("here", 940)), -201);
        });
        FalseName none = Check.with(PAIR);
        Check.sentence(none, "#");
        due("none stays none", none.said(-1), -1);
    }

    private static void saidWhich() {
        Doc.says("Promise 41", "PORTS of which it may be said: how many (k NONE), or the k-th.");
        FalseName x = Check.with(Texts.lines("port", EIGHT) + "ship s;");
        Check.sentence(x, "number < 999");
        due("all", x.said(-1), 8);
        for (int k = 0; k < 8; k++) {
            due("said(" + k + ")", x.said(k), k);
        }
        Check.sentence(x, "number = 0 or number = 7 or number = 3");
        due("three", x.said(-1), 3);
        int[] want = {0, 3, 7, -1};
        for (int k = 0; k < 4; k++) {
            due("said(" + k + ")", x.said(k), want[k]);
        }
        Check.sentence(x, "number > 7");
        due("none", x.said(-1), 0);
        due("none", x.said(0), -1);
    }

    private static void saidNone() {
        Doc.says("Promise 41", "NONE: there is no SENTENCE, none such.");
        FalseName x = Check.with(PAIR);
        for (int k = -1; k < 2; k++) {
            due("no SENTENCE", x.said(k), -1);
        }
        Check.sentence(x, "here or not here");
        due("two", x.said(-1), 2);
        due("said(2)", x.said(2), -1);
        for (int i : ODD) {
            if (i != -1) {
                due("said(" + i + ")", x.said(i), -1);
            }
        }
        Check.sea(x, PAIR);
        due("no SENTENCE of a new SEA", x.said(-1), -1);
    }

    private static void imagePlaces() {
        Doc.says("Promise 42", "SEA, all that is so and the SENTENCE are kept in place k (0, 1): true; false: no such one.");
        FalseName x = Check.with(PAIR + "owed s a 5;role r;man m;rain b 5;");
        Check.sentence(x, "been");
        x.takes();
        x.paint(1);
        x.sail(1);
        x.learn(0, 0);
        String kept = Looks.of(x);
        due("image(1)", x.image(1), true);
        for (int i : ODD) {
            due("image(" + i + ")", x.image(i), false);
        }
        due("image(2)", x.image(2), false);
        due("an image leaves what can be undone", x.undo(), 3);
        Check.sea(x, "");
        due("image(0)", x.image(0), true);
        due("restore(1)", x.restore(1), true);
        due("all is as kept", Looks.of(x).equals(kept), true);
        due("restore(0)", x.restore(0), true);
        due("the empty SEA", x.count(0), 0);
        due("no SENTENCE", x.said(-1), -1);
        // What is kept does not change with what is done behind it, and a new image takes its place.
        due("restore(1)", x.restore(1), true);
        x.waits(60);
        due("restore(1)", x.restore(1), true);
        due("DAY 7", x.now(0), 7);
        x.waits(60);
        x.image(1);
        x.waits(1);
        x.restore(1);
        due("the new one", x.now(0), 67);
    }

    private static void restored() {
        Doc.says("Promise 43", "They are as kept in place k (the tape, and what other calls told last, stays; "
            + "nothing can be undone): true");
        FalseName x = Check.with(PAIR);
        x.waits(5);
        x.image(0);
        x.waits(5);
        Check.log(x, "waits 2;takes;", 0);
        Check.sentence(x, "not #");
        Check.put(x, "waits 3;");
        due("restore(0)", x.restore(0), true);
        due("DAY 5", x.now(0), 5);
        due("the tape stays", x.count(7), 8);
        due("fault() stays", x.fault(), 1);
        loggedIs(x, 32, 1, 12, 0);
        due("nothing can be undone", x.undo(), -1);
        due("the tape is a LOG", x.log(1), -1);
        due("DAY 8", x.now(0), 8);
        due("what comes then can be undone", x.undo(), 0);
        due("again", x.restore(0), true);
        due("DAY 5", x.now(0), 5);
    }

    private static void restoreFalse() {
        Doc.says("Promise 43", "false: no such one, or nothing is kept there.");
        FalseName x = Check.with(PAIR);
        x.waits(5);
        Looks.stay("restore() of nothing", x, () -> {
            due("nothing in 0", x.restore(0), false);
            due("nothing in 1", x.restore(1), false);
            due("restore(2)", x.restore(2), false);
            for (int i : ODD) {
                due("restore(" + i + ")", x.restore(i), false);
            }
        });
        due("the wait can be undone still", x.undo(), 0);
        x.image(0);
        due("still nothing in 1", x.restore(1), false);
        due("but in 0", x.restore(0), true);
        FalseName y = new FalseName();
        due("an image of the empty SEA", y.image(1), true);
        due("nothing in 0", y.restore(0), false);
        due("restore(1)", y.restore(1), true);
    }

    private static void counts() {
        Doc.says("Promise 44", "0 PORTS, 1 ways, 2 mails, 3 SHIPS, 4 ROLES, 5 MEN, 6 the parrot's N");
        FalseName empty = new FalseName();
        for (int what = 0; what < 7; what++) {
            due("an empty SEA: count(" + what + ")", empty.count(what), 0);
        }
        FalseName x = Check.with(Texts.lines("port", EIGHT) + "way a b 1;way b c 1;way c a 1;mail a b 1;mail b a 1;"
            + Texts.lines("ship", "s", "t", "u", "v") + "role k;man la;man lb;man lc;man ld;man le;parrot 12;rain a 1;");
        int[] want = {8, 3, 2, 4, 1, 5, 12};
        for (int what = 0; what < 7; what++) {
            due("count(" + what + ")", x.count(what), want[what]);
        }
    }

    private static void countOther() {
        Doc.says("Promise 44", "7 bytes of the tape. NONE for another what.");
        FalseName x = new FalseName();
        due("none", x.count(7), 0);
        for (int i = 1; i <= 47; i++) {
            x.feed(0, 0, 0, 0, 0);
            due("bytes", x.count(7), 20 * i);
        }
        x.feed(0, 0, 0, 0, 0);
        due("a full tape", x.count(7), 940);
        x.end(939);
        due("cut", x.count(7), 939);
        for (int i : ODD) {
            due("count(" + i + ")", x.count(i), -1);
        }
    }
}
