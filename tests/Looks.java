/** What all calls that only look answer of an object with a small SEA, as a text to compare. */
final class Looks {
    private Looks() {
    }

    static String of(FalseName x) {
        StringBuilder all = new StringBuilder();
        for (int what = 0; what < 8; what++) {
            all.append(what == 7 ? "" : " count " + x.count(what)).append(" now ").append(x.now(what));
        }
        for (int p = 0; p < x.count(0); p++) {
            for (int what = 0; what < 6; what++) {
                all.append(" port ").append(x.port(p, what));
            }
            for (int q = 0; q < x.count(0); q++) {
                all.append(" way ").append(x.way(p, q)).append(" mail ").append(x.mail(p, q));
            }
            all.append(" safe ").append(x.safe(p)).append(" outruns ").append(x.outruns(p));
            all.append(" name ").append(x.nameOf(p));
        }
        for (int s = 0; s < x.count(3); s++) {
            for (int p = 0; p < x.count(0); p++) {
                all.append(" knows ").append(x.knows(p, s));
                all.append(" price ").append(x.price(s, p, 0)).append(' ').append(x.price(s, p, 1));
            }
            all.append(" needs ").append(x.needs(s)).append(" lacks ").append(x.lacks(s)).append(" net ").append(x.net(s));
        }
        for (int m = 0; m < x.count(5); m++) {
            all.append(" man ").append(x.man(m));
        }
        all.append(" soonest ").append(x.soonest()).append(" where ").append(x.where()).append(" mixed ").append(x.mixed(-1));
        all.append(" odds ").append(x.odds(2, 7));
        for (int k = -1; k < 3; k++) {
            all.append(" said ").append(x.said(k)).append(" logged ").append(x.logged(k + 1));
        }
        return all.toString();
    }

    /** A call that is refused leaves all as it is. */
    static void stay(String call, FalseName x, Runnable refused) {
        String before = of(x);
        refused.run();
        String after = of(x);
        Check.due(call + " leaves '" + before + "' (it is '" + after + "')", before.equals(after), true);
    }
}
