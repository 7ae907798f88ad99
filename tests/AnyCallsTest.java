import java.util.NoSuchElementException;
import java.util.Random;

/** Any calls with any arguments: none throws but as told, none that only looks changes a thing, all comes out alike twice. */
public final class AnyCallsTest {
    private static final Random RANDOM = new Random(44);
    private static final int[] ODD = {Integer.MIN_VALUE, Integer.MIN_VALUE + 1, -1000, -2, -1, 8, 9, 31, 32, 64, 999,
        Integer.MAX_VALUE - 1, Integer.MAX_VALUE};
    private static final String SEA = "port a;port b;port c;port d;port e;port f;port g;port h;way a b 1;way b c 2;way c d 3;"
        + "way d e 1;way e f 20;way a h 9;mail b c 4;mail c d 1;mail d b 40;mail h a 3;ship s;ship t;ship u;ship v;ship w;"
        + "ship x;ship y;ship z;role k;role l;role m;role n;role o;role p;needs t k;needs u l;needs u m;needs z k;needs z l;"
        + "needs z m;needs z n;needs z o;needs z p;man ma k l;man mb l m;man mc m n;man md n o;man me o p;man mf p;man mg;"
        + "man mh k;wanted s f 5;wanted t c 250;owed s c 8;owed t b 9;owed u d 3;rain b 2;rain c 4;rain b 4;parrot 2;";
    private static final String[] TEXTS = {SEA, "port a;ship s;", "port a;port b;", "ship s;role r;man m;", "",
        "sails b;paints t;sails c;waits 3;takes;mg learns k;sails b;", "waits 60;waits 60;waits 60;sails b;", "takes;",
        "far < 9 and not (safe or hears b) or knows t", "here", "not names > 1 and number = 2", "\u0000\u0001\u0002\u0003",
        "\u0000\u0000\u0001\u0009\u0002\u0011\u0007\u00ff"};

    public static void main(String[] args) {
        for (int run = 0; run < 300; run++) {
            FalseName one = new FalseName();
            FalseName two = new FalseName();
            if (run % 4 != 0) {
                Check.sea(one, SEA);
                Check.sea(two, SEA);
            }
            for (int i = 0; i < 480; i++) {
                int which = RANDOM.nextInt(46);
                if (which >= 43) {
                    String text = TEXTS[RANDOM.nextInt(TEXTS.length)];
                    one.end(0);
                    two.end(0);
                    Check.put(one, text);
                    Check.put(two, text);
                    which = new int[] {2, 36, 38, 23}[RANDOM.nextInt(4)];
                }
                int[] a = {any(), any(), any(), any(), any()};
                long first = call(one, which, a);
                if (which >= 16 && which <= 35 && which != 23 && which != 34) {
                    Check.due("call " + which + " again", call(one, which, a), first);
                }
                Check.due("call " + which + " of another object", call(two, which, a), first);
            }
        }
        Check.end("AnyCallsTest");
    }

    private static int any() {
        int kind = RANDOM.nextInt(12);
        return kind == 0 ? ODD[RANDOM.nextInt(ODD.length)] : kind == 1 ? RANDOM.nextInt() : RANDOM.nextInt(9) - 1;
    }

    private static long call(FalseName x, int which, int[] a) {
        try {
            return which < 22 ? firstHalf(x, which, a) : secondHalf(x, which, a);
        } catch (NoSuchElementException e) {
            boolean may = which == 4 || which == 30 || which == 31;
            Check.due("call " + which + " may throw", may, true);
            return 1L << 40;
        } catch (RuntimeException e) {
            Check.due("call " + which + " threw " + e, 1, 0);
            return 1L << 41;
        }
    }

    private static long bit(boolean b) {
        return b ? 1 : 0;
    }

    private static long firstHalf(FalseName x, int which, int[] a) {
        return switch (which) {
            case 0 -> x.feed(a[0], a[1], a[2], a[3], a[4]);
            case 1 -> bit(x.end(a[0]));
            case 2 -> x.sea();
            case 3 -> x.fault();
            case 4 -> x.port(a[0], a[1]);
            case 5 -> x.way(a[0], a[1]);
            case 6 -> x.mail(a[0], a[1]);
            case 7 -> x.price(a[0], a[1], a[2]);
            case 8 -> x.now(a[0]);
            case 9 -> x.paint(a[0]);
            case 10 -> x.sail(a[0]);
            case 11 -> x.waits(a[0]);
            case 12 -> x.takes();
            case 13 -> x.learn(a[0], a[1]);
            case 14 -> x.undo();
            case 15 -> bit(x.image(a[0]));
            case 16 -> x.knows(a[0], a[1]);
            case 17 -> x.first(a[0]);
            case 18 -> x.far(a[0], a[1]);
            case 19 -> x.hears(a[0], a[1]);
            case 20 -> x.safe(a[0]);
            default -> x.outruns(a[0]);
        };
    }

    private static long secondHalf(FalseName x, int which, int[] a) {
        return switch (which) {
            case 22 -> x.names() * 100 + x.nameOf(a[0]);
            case 23 -> x.register();
            case 24 -> x.lacks(a[0]);
            case 25 -> x.plays(a[0], a[1]);
            case 26 -> x.man(a[0]);
            case 27 -> x.needs(a[0]);
            case 28 -> x.over(a[0], a[1]);
            case 29 -> x.mixed(a[0]);
            case 30 -> x.net(a[0]);
            case 31 -> x.lasts(a[0], a[1]);
            case 32 -> x.soonest();
            case 33 -> x.where();
            case 34 -> x.drawn(a[0], a[1]);
            case 35 -> x.odds(a[0], a[1]);
            case 36 -> x.log(a[0] == 5 ? a[1] : a[0] & 1);
            case 37 -> x.logged(a[0]);
            case 38 -> x.sentence();
            case 39 -> x.said(a[0]);
            case 40 -> bit(x.restore(a[0]));
            case 41 -> x.count(a[0]);
            default -> x.nameOf(a[0]);
        };
    }
}
