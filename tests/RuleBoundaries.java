import java.math.BigInteger;

/** The boundary cases of "==== 2" and "==== 3": what she may do, what offices know, what follows. */
final class RuleBoundaries {
    private static final String SHORE = "port a;port b;way a b 1;ship s;ship t;wanted s b 3;";

    private RuleBoundaries() {
    }

    static void all() {
        calls();
        wantedFromDayNought();
        letters();
        oneOfEach();
        painting();
        sailing();
        waiting();
        taking();
        learning();
        caughtOnThatDay();
        paid();
        rain();
        lastDay();
        far();
        outruns();
        names();
        fewestNames();
        register();
        registerPairs();
        roles();
        over();
        lasts();
        draws();
        drawnIfItCanBe();
        drawnParrot();
        fractions();
        newSea();
        throwsChangeNothing();
    }

    private static void due(String call, long got, long want) {
        Check.due(call, got, want);
    }

    static void nowIs(FalseName x, int... want) {
        for (int what = 0; what < want.length; what++) {
            due("now(" + what + ")", x.now(what), want[what]);
        }
    }

    static void waitTill(FalseName x, int day) {
        while (x.now(0) < day) {
            due("waits till " + day, x.waits(Math.min(60, day - x.now(0))), 0);
        }
    }

    /** She is caught in SHORE. */
    static FalseName caught() {
        FalseName x = Check.with(SHORE + "owed s b 7;role r;man m;");
        due("sail(1)", x.sail(1), 0);
        due("caught", x.now(5), 1);
        return x;
    }

    private static void calls() {
        Doc.says("What it is", "An object is used for at most 512 calls after it has been made");
        FalseName x = new FalseName();
        Check.put(x, "port a;port b;way a b 1;ship s;");
        due("sea()", x.sea(), 4);
        int calls = 4;
        for (; calls < 510; calls += 2) {
            due("sail", x.sail(calls / 2 % 2 == 0 ? 1 : 0), 0);
            due("now(7)", x.now(7), (calls - 2) / 2);
        }
        due("the 511th call", x.undo(), 7);
        due("the 512th call", x.now(0), 252);
    }

    private static void wantedFromDayNought() {
        Doc.says("==== 2", "a SHIP that is WANTED at its PORT from DAY 0 on");
        FalseName x = Check.with("port a;port b;ship s;ship t;wanted t a 1;");
        due("knows(0, 1)", x.knows(0, 1), 0);
        due("on DAY 0", x.port(0, 0), 2);
        due("the other not", x.knows(0, 0), -1);
        due("without a mail not", x.knows(1, 1), -1);
        due("by SHIPS without a sea for her too", Check.with("ship s;port a;wanted s a 250;").knows(0, 0), 0);
    }

    private static void letters() {
        Doc.says("==== 2",
            "to which a mail comes from there, from d and the mail's DAYS on (it tells it on, by its own mails).");
        // a tells b in 3, b tells c in 4 and d in 40; a tells c in 8 itself, later than by b; no mail goes to e.
        FalseName x = Check.with("port a;port b;port c;port d;port e;mail a b 3;mail b c 4;mail a c 8;mail b d 40;mail e a 1;"
            + "ship s;wanted s a 1;");
        int[] want = {0, 3, 7, 43, -1};
        for (int p = 0; p < 5; p++) {
            due("knows(" + p + ", 0)", x.knows(p, 0), want[p]);
        }
        waitTill(x, 2);
        due("a DAY ahead", x.port(1, 0), 0);
        x.waits(1);
        due("on that DAY", x.port(1, 0), 1);
        waitTill(x, 6);
        due("a DAY ahead", x.port(2, 0), 0);
        x.waits(1);
        due("on that DAY", x.port(2, 0), 1);
        // A round of mails does not bring it back later.
        FalseName round = Check.with("port a;port b;mail a b 1;mail b a 1;ship s;wanted s a 1;");
        due("a round", round.knows(0, 0), 0);
        due("a round", round.knows(1, 0), 1);
        // Seven mails of 40 DAYS.
        FalseName row = Check.with(Texts.lines("port", "a", "b", "c", "d", "e", "f", "g", "h") + Texts.lines("mail", "a b 40",
            "b c 40", "c d 40", "d e 40", "e f 40", "f g 40", "g h 40") + "ship s;wanted s a 1;");
        due("the longest row", row.knows(7, 0), 280);
    }

    private static void oneOfEach() {
        Doc.says("==== 2", "She is at PORT 0 on DAY 0 as SHIP 0 (there must be one of each, else she can do nothing).");
        nowIs(Check.with("port a;ship s;"), 0, 0, 0, -1, 0, 0, 1, 0);
        String noShip = "port a;port b;way a b 1;role r;man m;";
        String noPort = "ship s;ship t;role r;man m;";
        for (String text : new String[] {noShip, noPort}) {
            FalseName x = Check.with(text);
            nowIs(x, 0, -1, -1, -1, 0, 0, 0, 0);
            due("sail(1)", x.sail(1), text.equals(noShip) ? 1 : -1);
            due("paint(1)", x.paint(1), text.equals(noPort) ? 1 : -1);
            due("waits(1)", x.waits(1), 1);
            due("takes()", x.takes(), 1);
            due("learn(0, 0)", x.learn(0, 0), 1);
            due("drawn(1, 1)", x.drawn(1, 1), -1);
            due("undo()", x.undo(), -1);
            nowIs(x, 0, -1, -1, -1, 0, 0, 0, 0);
        }
    }

    private static void painting() {
        Doc.says("==== 2", "To PAINT: why not, the least: 1 she is caught, or there is no sea for her; 2 she has that name; "
            + "3 MEN can't play all ROLES that it needs (one man for each, who knows it): 1 DAY.");
        FalseName gone = Check.with(SHORE + "role r;needs t r;needs s r;");
        gone.sail(1);
        due("caught, and she has it: 1", gone.paint(0), 1);
        due("caught, and none can play: 1", gone.paint(1), 1);
        due("no sea for her", Check.with("ship s;").paint(0), 1);
        String start = "port a;ship s;ship t;role q;role r;needs t q;needs t r;needs s q;";
        due("she has it, and none can play: 2", Check.with(start).paint(0), 2);
        due("no MEN", Check.with(start).paint(1), 3);
        due("one MAN for both", Check.with(start + "man m q r;").paint(1), 3);
        due("one knows none", Check.with(start + "man m q r;man n;").paint(1), 3);
        due("both know the same", Check.with(start + "man m q;man n q;").paint(1), 3);
        due("one each", Check.with(start + "man m q;man n r;").paint(1), 0);
        due("the other way round", Check.with(start + "man m q r;man n q;").paint(1), 0);
        FalseName free = Check.with("port a;ship s;ship t;");
        due("no ROLES", free.paint(1), 0);
        due("1 DAY", free.now(0), 1);
        due("she has it now", free.paint(1), 2);
        due("and back", free.paint(0), 0);
        // All six ROLES, and a crew that fits in one way alone.
        String six = "port a;ship s;ship t;" + Texts.lines("role", "u", "v", "w", "x", "y", "z")
            + Texts.lines("needs", "t u", "t v", "t w", "t x", "t y", "t z");
        String five = six + "man ma u v;man mb v w;man mc w x;man md x y;man me y z;";
        due("five for six", Check.with(five).paint(1), 3);
        due("six for six", Check.with(five + "man mf u;").paint(1), 0);
        due("six, of whom none is left for one", Check.with(six + "man ma u v;man mb u v;man mc u v;man md x y;man me y z;"
            + "man mf w z;").paint(1), 3);
    }

    private static void sailing() {
        Doc.says("==== 2", "To SAIL to another PORT: 1 as above; 2 no way there: the way's DAYS.");
        FalseName x = Check.with("port a;port b;port c;port d;way a b 20;way b c 1;ship s;");
        due("where she is", x.sail(0), 2);
        due("by two ways, not one", x.sail(2), 2);
        due("no way", x.sail(3), 2);
        due("day 0", x.now(0), 0);
        due("20 DAYS", x.sail(1), 0);
        due("20 DAYS", x.now(0), 20);
        due("1 DAY", x.sail(2), 0);
        due("1 DAY", x.now(0), 21);
        due("not back at once", x.sail(0), 2);
        FalseName gone = caught();
        due("caught, and a way: 1", gone.sail(0), 1);
        due("caught, and no way: 1", gone.sail(1), 1);
        due("no sea for her", Check.with("port a;").sail(0), 1);
    }

    private static void waiting() {
        Doc.says("==== 2", "To WAIT n: 1 as above.");
        due("caught", caught().waits(1), 1);
        due("no sea for her", new FalseName().waits(60), 1);
        // Where she is she is not caught, though her name comes to be known.
        FalseName x = Check.with("port a;port b;mail b a 1;ship s;wanted s b 1;");
        due("waits(1)", x.waits(1), 0);
        due("known here", x.port(0, 0), 1);
        due("waits(60)", x.waits(60), 0);
        due("not caught", x.now(5), 0);
    }

    private static void taking() {
        Doc.says("==== 2", "To TAKE: 1 as above; 2 nothing is owed to that name there (or it is taken): she has it.");
        due("caught, and owed: 1", caught().takes(), 1);
        due("no sea for her", Check.with("port a;").takes(), 1);
        FalseName x = Check.with("port a;port b;way a b 1;ship s;ship t;owed s b 250;owed t a 1;");
        due("nothing to that name", x.takes(), 2);
        x.sail(1);
        due("there it is", x.takes(), 0);
        due("she has it", x.now(4), 250);
        due("it is taken", x.takes(), 2);
        due("no DAY", x.now(0), 1);
        x.paint(1);
        due("nothing to the other there", x.takes(), 2);
        x.sail(0);
        due("but here", x.takes(), 0);
        due("she has both", x.now(4), 251);
        due("taken for good", x.takes(), 2);
    }

    private static void learning() {
        Doc.says("==== 2", "A MAN LEARNS a ROLE: 1 as above; 2 he knows it: 3 DAYS.");
        FalseName gone = Check.with(SHORE + "role r;man m r;");
        gone.sail(1);
        due("caught, and he knows it: 1", gone.learn(0, 0), 1);
        due("no sea for her", Check.with("role r;man m;").learn(0, 0), 1);
        FalseName x = Check.with("port a;ship s;role q;role r;man m r;man n;");
        due("he knows it", x.learn(0, 1), 2);
        due("day 0", x.now(0), 0);
        due("he does not", x.learn(0, 0), 0);
        due("3 DAYS", x.now(0), 3);
        due("now he does", x.learn(0, 0), 2);
        due("the other not", x.learn(1, 0), 0);
        due("m", x.man(0), 3);
        due("n", x.man(1), 1);
    }

    private static void caughtOnThatDay() {
        Doc.says("==== 2",
            "When she comes to a PORT (by sailing) whose office knows her name on that DAY, she is CAUGHT");
        String text = "port a;port b;port c;way a b 5;mail c b 5;ship s;ship t;wanted s c 9;";
        FalseName onTheDay = Check.with(text);
        onTheDay.sail(1);
        nowIs(onTheDay, 5, 1, 0, -1, 0, 1, 1, 1);
        FalseName ahead = Check.with(text.replace("mail c b 5", "mail c b 6"));
        ahead.sail(1);
        nowIs(ahead, 5, 1, 0, -1, 0, 0, 1, 1);
        ahead.waits(1);
        due("not by waiting", ahead.now(5), 0);
        due("nor by painting", ahead.paint(1) + ahead.paint(0), 0);
        due("she has a known name there", ahead.port(1, 0), 1);
        due("not caught", ahead.now(5), 0);
        FalseName other = Check.with(text);
        other.paint(1);
        other.sail(1);
        due("not under another name", other.now(5), 0);
        FalseName home = Check.with("port a;port b;way a b 1;ship s;wanted s a 4;");
        due("not where she begins", home.now(5), 0);
        home.sail(1);
        home.sail(0);
        nowIs(home, 2, 0, 0, -1, -4, 1, 1, 2);
    }

    private static void paid() {
        Doc.says("==== 2", "(and what all names are WANTED for at that PORT is paid: her coin may be below 0)");
        FalseName x = Check.with("port a;port b;way a b 1;ship s;ship t;ship u;wanted s b 250;wanted t b 250;wanted u b 1;"
            + "wanted s a 99;owed s a 10;");
        x.takes();
        x.sail(1);
        due("10 less 501", x.now(4), -491);
        FalseName none = Check.with("port a;port b;port c;way a b 1;mail c b 1;ship s;wanted s c 250;");
        none.sail(1);
        due("caught", none.now(5), 1);
        due("nothing is wanted there", none.now(4), 0);
        FalseName eight = Check.with("port a;port b;way a b 1;ship s;ship t;ship u;ship v;ship w;ship x;ship y;ship z;"
            + Texts.lines("wanted", "s b 250", "t b 250", "u b 250", "v b 250", "w b 250", "x b 250", "y b 250", "z b 249"));
        eight.sail(1);
        due("all eight", eight.now(4), -1999);
        FalseName exactly = Check.with("port a;port b;way a b 1;ship s;owed s a 7;wanted s b 7;");
        exactly.takes();
        exactly.sail(1);
        due("to 0", exactly.now(4), 0);
    }

    private static void rain() {
        Doc.says("==== 2", "Else, if it rains there on that DAY (its rest by 100 is that of a rain), "
            + "and she had another name ahead of this one (the latest): the office knows both from that DAY on.");
        String text = "port a;port b;port c;way a b 1;mail b c 1;ship s;ship t;ship u;rain b 0;rain b 99;rain b 2;";
        FalseName x = Check.with(text);
        x.waits(1);
        x.sail(1);
        due("it rains", x.port(1, 3), 1);
        due("she had no other name", x.knows(1, 0), -1);
        int[] days = {2, 99, 100, 102, 199, 200, 999};
        for (int day : days) {
            FalseName wet = Check.with(text);
            wet.paint(1);
            waitTill(wet, day - 1);
            wet.sail(1);
            due("both on DAY " + day, wet.knows(1, 0), day);
            due("both on DAY " + day, wet.knows(1, 1), day);
            due("told on", wet.knows(2, 0), day + 1);
            due("not the third", wet.knows(1, 2), -1);
            due("not caught", wet.now(5), 0);
        }
        for (int day : new int[] {3, 98, 101, 103, 201, 998}) {
            FalseName dry = Check.with(text);
            dry.paint(1);
            waitTill(dry, day - 1);
            dry.sail(1);
            due("no rain on DAY " + day, dry.knows(1, 1), -1);
        }
        FalseName third = Check.with(text);
        third.paint(1);
        third.paint(2);
        waitTill(third, 98);
        third.sail(1);
        due("not the first", third.knows(1, 0), -1);
        due("the latest", third.knows(1, 1), 99);
        due("and this one", third.knows(1, 2), 99);
        FalseName back = Check.with(text);
        back.paint(1);
        back.paint(0);
        waitTill(back, 98);
        back.sail(1);
        due("the latest is not the first", back.knows(1, 1), 99);
        FalseName caught = Check.with(text + "wanted t b 5;");
        caught.paint(1);
        caught.sail(1);
        due("caught in the rain", caught.now(5), 1);
        due("then the other is not known", caught.knows(1, 0), -1);
        FalseName known = Check.with(text + "wanted s b 5;");
        known.paint(1);
        known.sail(1);
        due("known ahead of it stays so", known.knows(1, 0), 0);
        due("the new one from that DAY", known.knows(1, 1), 2);
    }

    private static void lastDay() {
        Doc.says("==== 2", "(DAYS 0 to 999: what would be longer: 9.)");
        String text = "port a;port b;way a b 20;ship s;ship t;owed s a 5;role r;man m;";
        int[] lengths = {1, 20, 60, 3};
        for (int act = 0; act < 4; act++) {
            FalseName x = Check.with(text);
            waitTill(x, 999 - lengths[act]);
            due("to DAY 999", act(x, act), 0);
            due("DAY 999", x.now(0), 999);
            FalseName late = Check.with(text);
            waitTill(late, 1000 - lengths[act]);
            int which = act;
            Looks.stay("act " + act, late, () -> due("to DAY 1000", act(late, which), 9));
            late.undo();
            Check.due("not kept for undo()", late.now(0) < 1000 - lengths[act], true);
        }
        FalseName end = Check.with(text);
        waitTill(end, 999);
        due("waits(1)", end.waits(1), 9);
        due("a reason that is less comes first", end.paint(0), 2);
        due("a reason that is less comes first", end.sail(0), 2);
        due("to take needs no DAY", end.takes(), 0);
    }

    private static int act(FalseName x, int act) {
        return act == 0 ? x.paint(1) : act == 1 ? x.sail(1) : act == 2 ? x.waits(60) : x.learn(0, 0);
    }

    private static void far() {
        Doc.says("==== 3", "FAR: the fewest DAYS by ways.");
        FalseName x = Check.with("port a;port b;port c;port d;way a b 20;way a c 3;way c b 16;");
        due("by two ways", x.far(0, 1), 19);
        due("back", x.far(1, 0), 19);
        due("none", x.far(0, 3), -1);
        due("to oneself", x.far(3, 3), 0);
        due("by the first PORT", Check.with("port a;port b;port c;way a b 2;way a c 3;").far(1, 2), 5);
        FalseName row = Check.with(Texts.lines("port", "a", "b", "c", "d", "e", "f", "g", "h") + Texts.lines("way", "a b 20",
            "b c 20", "c d 20", "d e 20", "e f 20", "f g 20", "g h 20"));
        due("the longest", row.far(0, 7), 140);
    }

    private static void outruns() {
        Doc.says("==== 3",
            "OUTRUNS a PORT: she comes there (by FAR, from now) ahead of the DAY from which its office knows her "
            + "name (never known: too).");
        String text = "port a;port b;port c;way a c 2;way c b 2;way a b 9;mail c b 5;ship s;ship t;wanted s c 1;";
        FalseName x = Check.with(text);
        due("DAY 4 is ahead of DAY 5", x.outruns(1), 1);
        due("known on DAY 0", x.outruns(2), 0);
        due("where she is, never known", x.outruns(0), 1);
        x.waits(1);
        due("DAY 5 is not ahead of DAY 5", x.outruns(1), 0);
        x.paint(1);
        due("under the other name never known", x.outruns(1), 1);
        FalseName here = Check.with("port a;port b;mail b a 1;ship s;wanted s b 1;");
        due("where she is, a DAY ahead", here.outruns(0), 1);
        here.waits(1);
        due("where she is, known by now", here.outruns(0), 0);
    }

    private static void names() {
        Doc.says("==== 3",
            "NAMES for all PORTS: one for each, so that no two of which one hears from the other (by a row of mails)"
            + " have the same");
        FalseName x = Check.with("port a;port b;port c;mail a b 40;mail b c 40;");
        due("by a row too", x.names(), 3);
        FalseName v = Check.with("port a;port b;port c;mail a b 1;mail c b 1;");
        due("two that tell a third", v.names(), 2);
        due("do not hear from one another", v.nameOf(2), 0);
        due("the third does", v.nameOf(1), 1);
    }

    private static void fewestNames() {
        Doc.says("==== 3",
            "the fewest; of like ones the least at PORT 0, then at PORT 1, .. (names 0, 1, ..; as many as it needs)");
        due("no PORTS", new FalseName().names(), 0);
        due("one", Check.with("port a;").names(), 1);
        FalseName free = Check.with(Texts.lines("port", "a", "b", "c", "d", "e", "f", "g", "h"));
        due("none hears", free.names(), 1);
        due("all alike", free.nameOf(7), 0);
        // A ring of mails: all hear from all.
        FalseName ring = Check.with(Texts.lines("port", "a", "b", "c", "d", "e", "f", "g", "h") + Texts.lines("mail", "a b 1",
            "b c 1", "c d 1", "d e 1", "e f 1", "f g 1", "g h 1", "h a 1"));
        due("all hear", ring.names(), 8);
        for (int p = 0; p < 8; p++) {
            due("nameOf(" + p + ")", ring.nameOf(p), p);
        }
        // a, b, c, d in a row a - c - d - b: the least name that is free each time would need a third.
        FalseName row = Check.with("port a;port b;port c;port d;mail a c 1;mail d c 1;mail d b 1;");
        due("the fewest", row.names(), 2);
        int[] want = {0, 1, 1, 0};
        for (int p = 0; p < 4; p++) {
            due("nameOf(" + p + ")", row.nameOf(p), want[p]);
        }
    }

    private static void register() {
        Doc.says("==== 3",
            "the fewest ships by which all can have been seen (one ship from one to another: DAYS by FAR at least; "
            + "two at once in one PORT may be one).");
        FalseName x = Check.with("port a;port b;port c;port d;way a b 5;way b c 5;");
        due("FAR", Check.register(x, 0, 0, 2, 10), 1);
        due("a DAY less", Check.register(x, 0, 1, 2, 10), 2);
        due("whichever is told first", Check.register(x, 2, 10, 0, 0), 1);
        due("two at once in one PORT", Check.register(x, 1, 7, 1, 7), 1);
        due("ten at once in one PORT", Check.register(x, 1, 7, 1, 7, 1, 7, 1, 7, 1, 7, 1, 7, 1, 7, 1, 7, 1, 7, 1, 7), 1);
        due("two at once in two", Check.register(x, 0, 7, 1, 7), 2);
        due("can't be reached", Check.register(x, 0, 0, 3, 255), 2);
        due("the highest DAY", Check.register(x, 0, 245, 2, 255), 1);
        due("the highest DAY", Check.register(x, 0, 246, 2, 255), 2);
        due("DAY 128 is above 127", Check.register(x, 0, 123, 1, 128), 1);
        // The first ship could be the third's seen too, but then none is left for the last.
        due("the fewest", Check.register(x, 0, 0, 2, 0, 1, 5, 0, 6), 2);
        due("all apart", Check.register(x, 0, 0, 1, 1, 2, 2, 3, 3), 4);
        due("three of ten apart", Check.register(x, 0, 0, 1, 0, 2, 0, 0, 5, 1, 5, 2, 5, 0, 10, 1, 10, 2, 10, 2, 11), 3);
        due("the last two apart", Check.register(x, 0, 0, 0, 9, 0, 20, 1, 20), 2);
        due("the first two apart", Check.register(x, 0, 0, 1, 0, 1, 9, 1, 20), 2);
        due("the first and the last apart", Check.register(x, 0, 9, 0, 30, 0, 20, 1, 10), 2);
    }

    private static void registerPairs() {
        Doc.says("==== 3", "REGISTER by the tape (pairs of bytes: a PORT, a DAY; 2 to 10 pairs)");
        FalseName x = Check.with("port a;port b;");
        due("none", Check.register(x), -1);
        due("one", Check.register(x, 0, 0), -1);
        due("one and a half", Check.register(x, 0, 0, 1), -1);
        due("two", Check.register(x, 0, 0, 1, 0), 2);
        int[] ten = new int[20];
        due("ten", Check.register(x, ten), 1);
        due("ten and a half", Check.register(x, new int[21]), -1);
        due("eleven", Check.register(x, new int[22]), -1);
        due("a full tape", Check.register(x, new int[940]), -1);
    }

    private static void roles() {
        Doc.says("==== 3", "ROLES of a name: MEN for them, one each: the fewest ROLES that must be learnt; "
            + "of like ones for the first ROLE (by numbers) the first man, then for the second, ..");
        String start = "ship s;role p;role q;role r;needs s p;needs s q;needs s r;";
        FalseName none = Check.with(start + "man a;man b;man c;man d;");
        due("none knows any", none.lacks(0), 3);
        playsIs(none, 0, 1, 2);
        FalseName all = Check.with(start + "man a p q r;man b p q r;man c p q r;man d p q r;");
        due("all know all", all.lacks(0), 0);
        playsIs(all, 0, 1, 2);
        FalseName last = Check.with(start + "man a;man b;man c;man d p;");
        due("the last knows one", last.lacks(0), 2);
        playsIs(last, 3, 0, 1);
        FalseName one = Check.with(start + "man a p q;man b p;man c;man d q;");
        due("the fewest ahead of the first man", one.lacks(0), 1);
        playsIs(one, 0, 3, 1);
        FalseName turn = Check.with(start + "man a p q r;man b p;man c p;");
        due("two know the same", turn.lacks(0), 1);
        playsIs(turn, 1, 0, 2);
    }

    private static void playsIs(FalseName x, int... want) {
        for (int k = 0; k < want.length; k++) {
            due("plays(0, " + k + ")", x.plays(0, k), want[k]);
        }
        due("no more", x.plays(0, want.length), -1);
    }

    private static void over() {
        Doc.says("==== 3", "at each place the letter that is later in the alphabet; where one has no more, the other's.");
        FalseName x = Check.with("ship a;ship z;ship zaaaaaa;ship azzzzzz;ship zzzzzzz;ship aa;");
        due("a letter over one", x.over(0, 1), 1);
        due("one over seven", x.over(0, 2), 2);
        due("seven over one", x.over(2, 1), 2);
        due("seven over seven", x.over(2, 3), 4);
        due("one over seven gives none of hers but the third", x.over(1, 3), 4);
        due("two over seven", x.over(5, 2), 2);
        due("the longer one goes on", x.over(5, 0), 5);
        due("none of hers", x.over(5, 1), -1);
    }

    private static void lasts() {
        Doc.says("==== 3", "LASTS: how likely a name is not told in n PORTS, if the parrot tells it in each by N of 12.");
        lastsIs(0, 6, 1, 1);
        lastsIs(12, 1, 0, 1);
        lastsIs(12, 6, 0, 1);
        lastsIs(12, 0, 1, 1);
        lastsIs(1, 6, 1771561, 2985984);
        lastsIs(11, 6, 1, 2985984);
        lastsIs(6, 6, 1, 64);
        lastsIs(5, 2, 49, 144);
    }

    private static void lastsIs(int parrot, int n, int above, int below) {
        FalseName x = Check.with("parrot " + parrot + ";");
        due("parrot " + parrot + ": lasts(" + n + ", 0)", x.lasts(n, 0), above);
        due("parrot " + parrot + ": lasts(" + n + ", 1)", x.lasts(n, 1), below);
    }

    private static BigInteger seed;

    /** A draw, reckoned without any wrapping. */
    private static int draw(int n) {
        BigInteger all = BigInteger.ONE.shiftLeft(32);
        seed = seed.multiply(BigInteger.valueOf(1103515245)).add(BigInteger.valueOf(12345)).mod(all);
        return seed.shiftRight(8).mod(BigInteger.valueOf(n)).intValue();
    }

    private static void draws() {
        Doc.says("==== 3",
            "for each draw of n x becomes x * 1103515245 + 12345 (an int, wrapping), the draw is (x >>> 8) % n: "
            + "each voyage: a draw of 3: 0: a draw of all SHIPS");
        FalseName x = Check.with("port a;port b;port c;way a b 1;way b c 2;way c a 4;ship s;ship t;ship u;ship v;ship w;");
        int[] seeds = {0, 1, -1, 2, -2, Integer.MAX_VALUE, Integer.MIN_VALUE, Integer.MAX_VALUE - 1, Integer.MIN_VALUE + 1,
            1 << 30, 123456789, -987654321};
        int[][] days = {{0, 1, 4}, {1, 0, 2}, {4, 2, 0}};
        for (int first : seeds) {
            seed = BigInteger.valueOf(first);
            int day = 0;
            int port = 0;
            int name = 0;
            int voyages = 0;
            for (int i = 0; i < 25; i++) {
                if (draw(3) == 0) {
                    int next = draw(5);
                    day += next == name ? 0 : 1;
                    name = next;
                }
                int next = draw(3);
                if (next != port) {
                    draw(12);
                    day += days[port][next];
                    voyages++;
                }
                port = next;
            }
            due("drawn(25, " + first + ")", x.drawn(25, first), 25);
            int[] got = {x.now(0), x.now(1), x.now(2), x.now(7)};
            int[] want = {day, port, name, voyages};
            for (int i = 0; i < 4; i++) {
                due("behind drawn(25, " + first + "): " + i, got[i], want[i]);
            }
            x.undo();
        }
    }

    private static void drawnIfItCanBe() {
        Doc.says("==== 3", "she is painted so, if it can be; then a draw of all PORTS: she sails there, if she can");
        // None can play t's ROLE, and no way goes anywhere.
        FalseName x = Check.with("port a;port b;ship s;ship t;role r;needs t r;");
        due("60 are tried", x.drawn(60, 5), 60);
        nowIs(x, 0, 0, 0, -1, 0, 0, 1, 0);
        FalseName last = Check.with("port a;port b;way a b 20;ship s;ship t;");
        waitTill(last, 999);
        due("60 are tried", last.drawn(60, 5), 60);
        nowIs(last, 999, 0, 0, -1, 0, 0, 1, 0);
    }

    private static void drawnParrot() {
        Doc.says("==== 3",
            "if she did and is not caught, a draw of 12: below N: the office knows her name from that DAY on.");
        FalseName never = Check.with("port a;port b;way a b 1;ship s;parrot 0;");
        due("N of 0", never.drawn(60, 3), 60);
        due("none knows", never.first(0), -1);
        FalseName always = Check.with("port a;port b;way a b 1;mail b a 40;ship s;parrot 12;");
        always.drawn(60, 3);
        due("the first voyage tells", always.knows(1, 0), 1);
        due("the second too", always.knows(0, 0), 2);
        due("the third is the last", always.now(7), 3);
        due("caught", always.now(5), 1);
        // The draw that is N itself does not tell, the one below it does.
        String text = "port a;port b;way a b 1;ship s;parrot ";
        boolean[] seen = new boolean[12];
        for (int first = 0; first < 300; first++) {
            seed = BigInteger.valueOf(first);
            boolean painted = draw(3) == 0 && draw(1) == 0;
            if (draw(2) == 0) {
                continue;
            }
            int drawn = draw(12);
            if (seen[drawn]) {
                continue;
            }
            seen[drawn] = true;
            FalseName at = Check.with(text + drawn + ";");
            due("one voyage", at.drawn(1, first), 1);
            due("N of " + drawn + " by a draw of it" + (painted ? ", painted" : ""), at.knows(1, 0), -1);
            FalseName below = Check.with(text + (drawn + 1) + ";");
            due("one voyage", below.drawn(1, first), 1);
            due("N of one more", below.knows(1, 0), 1);
        }
        for (int i = 0; i < 12; i++) {
            Check.due("a draw of " + i + " came", seen[i], true);
        }
    }

    private static void fractions() {
        Doc.says("==== 3", "All fractions are told by two numbers: 0 above, 1 below, in least terms.");
        int[] above = {1, 11, 5, 3, 2, 7, 1, 5, 1, 1, 1, 1, 0};
        int[] below = {1, 12, 6, 4, 3, 12, 2, 12, 3, 4, 6, 12, 1};
        for (int n = 0; n <= 12; n++) {
            lastsIs(n, 1, above[n], below[n]);
            lastsIs(n, 2, above[n] * above[n], below[n] * below[n]);
            lastsIs(n, 0, 1, 1);
        }
    }

    private static void newSea() {
        Doc.says("==== 3", "A new SEA: DAY 0, no coin, no SENTENCE.");
        String text = "port a;port b;way a b 1;ship s;ship t;owed s a 5;role r;man m;rain b 2;";
        FalseName x = Check.with(text);
        Check.sentence(x, "here");
        x.takes();
        x.paint(1);
        x.sail(1);
        x.learn(0, 0);
        due("sea()", Check.sea(x, text), 9);
        nowIs(x, 0, 0, 0, -1, 0, 0, 1, 0);
        due("no SENTENCE", x.said(-1), -1);
        due("what was taken is owed", x.price(0, 0, 1), 5);
        due("what was learnt is not known", x.man(0), 0);
        due("what was told is not known", x.first(0), -1);
        due("she came nowhere", x.port(1, 2), 0);
        due("nothing can be undone", x.undo(), -1);
        due("a SEA of which nothing of this is told", Check.sea(x, "port a;port b;ship s;ship t;role r;man m;"), 6);
        due("no way", x.way(0, 1), -1);
        due("nothing owed", x.price(0, 0, 1), 0);
        due("FAR", x.far(0, 1), -1);
        FalseName rich = Check.with(Texts.SEA);
        due("a SEA of which nothing of this is told",
            Check.sea(rich, "port a;port b;ship s;ship t;role q;role r;man m;man n;"), 8);
        due("needs", rich.needs(1), 0);
        due("man", rich.man(0), 0);
        due("mail", rich.mail(0, 1) + rich.hears(0, 1), -2);
        due("wanted", rich.price(1, 1, 0), 0);
        due("known", rich.first(1), -1);
        rich.waits(4);
        due("rain", rich.port(1, 3), 0);
        due("parrot", rich.count(6), 0);
        FalseName gone = caught();
        due("sea()", Check.sea(gone, ""), 0);
        nowIs(gone, 0, -1, -1, -1, 0, 0, 0, 0);
    }

    private static void throwsChangeNothing() {
        Doc.says("==== 3", "A call that throws changes nothing.");
        FalseName x = Check.with(Texts.SEA);
        Check.sentence(x, "here");
        Check.log(x, "waits 1;", 0);
        x.sail(1);
        Check.put(x, "abc");
        Looks.stay("a call that throws", x, () -> {
            int[] odd = {Integer.MIN_VALUE, -1, 3, 64, Integer.MAX_VALUE};
            for (int i : odd) {
                Check.due("port throws", Check.throwsNoSuch(() -> x.port(i, 0)), true);
                Check.due("net throws", Check.throwsNoSuch(() -> x.net(i)), true);
                Check.due("lasts throws", Check.throwsNoSuch(() -> x.lasts(0, i)), true);
            }
        });
        due("the tape stays", x.count(7), 3);
        due("fault() stays", x.fault(), 0);
        due("undo() too", x.undo(), 0);
    }
}
