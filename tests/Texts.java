/** What sea(), log() and sentence() must answer of a text, right or with a FAULT, on a new object each time. */
final class Texts {
    /** The SEA that LOGS and SENTENCES speak of. */
    static final String SEA = "port a;port b;port c;way a b 3;mail a b 2;ship s;ship t;wanted t b 9;owed s b 5;role q;role r;"
        + "needs t q;man m q;man n;rain b 4;parrot 2;";

    private Texts() {
    }

    static FalseName seaIs(String text, int lines) {
        FalseName x = new FalseName();
        Check.due("sea() of '" + text + "'", Check.sea(x, text), lines);
        Check.due("fault() of '" + text + "'", x.fault(), 0);
        return x;
    }

    /** The FAULT's place is marked with ^, which is not of the text. */
    static void seaFault(String marked, int kind) {
        seaFault(marked.replace("^", ""), kind, marked.indexOf('^'));
    }

    static void seaFault(String text, int kind, int place) {
        FalseName x = Check.with(SEA);
        Check.due("sea() of '" + text + "'", Check.sea(x, text), -1 - place);
        Check.due("fault() of '" + text + "'", x.fault(), kind);
        Check.due("the SEA ahead of '" + text + "' stays", x.count(0) == 3 && x.way(0, 1) == 3 && x.count(6) == 2, true);
    }

    /** The LOG has no FAULT (whether a LINE is WRONG is not asked here). */
    static FalseName logIs(String text) {
        FalseName x = Check.with(SEA);
        Check.due("log(0) of '" + text + "' has no FAULT", Check.log(x, text, 0) >= -1, true);
        Check.due("fault() of '" + text + "'", x.fault(), 0);
        return x;
    }

    /** The FAULT's place is marked with ^, which is not of the text. */
    static void logFault(String marked, int kind) {
        logFault(marked.replace("^", ""), kind, marked.indexOf('^'));
    }

    static void logFault(String text, int kind, int place) {
        for (int lives = 0; lives <= 1; lives++) {
            FalseName x = Check.with(SEA);
            Check.due("log(" + lives + ") of '" + text + "'", Check.log(x, text, lives), -2 - place);
            Check.due("fault() of '" + text + "'", x.fault(), kind);
            Check.due("nothing of '" + text + "' is lived", x.now(0), 0);
        }
    }

    static FalseName sentenceIs(String text, int ones) {
        FalseName x = Check.with(SEA);
        Check.due("sentence() of '" + text + "'", Check.sentence(x, text), ones);
        Check.due("fault() of '" + text + "'", x.fault(), 0);
        return x;
    }

    /** The FAULT's place is marked with ^, which is not of the text. */
    static void sentenceFault(String marked, int kind) {
        sentenceFault(marked.replace("^", ""), kind, marked.indexOf('^'));
    }

    static void sentenceFault(String text, int kind, int place) {
        FalseName x = Check.with(SEA);
        Check.sentence(x, "number = 2");
        Check.due("sentence() of '" + text + "'", Check.sentence(x, text), -1 - place);
        Check.due("fault() of '" + text + "'", x.fault(), kind);
        Check.due("the SENTENCE ahead of '" + text + "' stays", x.said(-1) == 1 && x.said(0) == 2, true);
    }

    /** Blanks behind a text, till it has so many bytes. */
    static String padded(String text, int size) {
        return text + " ".repeat(Math.max(0, size - text.length()));
    }

    /** Blanks ahead of a text, till it has so many bytes. */
    static String indented(String text, int size) {
        return " ".repeat(Math.max(0, size - text.length())) + text;
    }

    /** A LINE of a SEA for each tail. */
    static String lines(String head, String... tails) {
        StringBuilder text = new StringBuilder();
        for (String tail : tails) {
            text.append(head).append(' ').append(tail).append(';');
        }
        return text.toString();
    }
}
