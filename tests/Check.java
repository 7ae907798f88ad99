/** What all tests share: texts come on the tape, answers are compared. */
final class Check {
    private static int wrong = 0;
    private static String about = "";

    private Check() {
    }

    /** Wrong answers that come next are told with this ahead. */
    static void about(String what) {
        about = what.isEmpty() ? "" : what + ": ";
    }

    static void due(String call, long got, long want) {
        if (got != want) {
            wrong++;
            if (wrong <= 50) {
                System.out.println(about + call + " answered " + got + ", due is " + want);
            }
        }
    }

    static void due(String call, boolean got, boolean want) {
        due(call, got ? 1 : 0, want ? 1 : 0);
    }

    /** Puts a text of at most 940 signs on an empty tape. */
    static void put(FalseName x, String text) {
        for (int i = 0; i < text.length(); i += 20) {
            int[] five = new int[5];
            for (int j = 0; j < 20; j++) {
                int sign = i + j < text.length() ? text.charAt(i + j) & 255 : 0;
                five[j / 4] |= sign << 24 - 8 * (j % 4);
            }
            x.feed(five[0], five[1], five[2], five[3], five[4]);
        }
        due("end(" + text.length() + ")", x.end(text.length()), true);
    }

    static int sea(FalseName x, String text) {
        put(x, text);
        return x.sea();
    }

    static int sentence(FalseName x, String text) {
        put(x, text);
        return x.sentence();
    }

    static int log(FalseName x, String text, int lives) {
        put(x, text);
        return x.log(lives);
    }

    static int register(FalseName x, int... bytes) {
        StringBuilder text = new StringBuilder();
        for (int b : bytes) {
            text.append((char) b);
        }
        put(x, text.toString());
        return x.register();
    }

    /** A new object with this sea. */
    static FalseName with(String text) {
        FalseName x = new FalseName();
        int lines = sea(x, text);
        if (lines < 0) {
            due("sea() of " + text, lines, 0);
        }
        return x;
    }

    static boolean throwsNoSuch(Runnable call) {
        try {
            call.run();
            return false;
        } catch (java.util.NoSuchElementException e) {
            return true;
        }
    }

    static void end(String test) {
        System.out.println(test + ": " + (wrong == 0 ? "all answers are as due" : wrong + " answers are not as due"));
        if (wrong != 0) {
            System.exit(1);
        }
    }
}
