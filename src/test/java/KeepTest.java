/** Promises 26 to 30: lands, judge, image, on, count. */
public final class KeepTest {
    public static void main(String[] args) {
        draws();
        drawsRefused();
        judged();
        imageAndOn();
        imageKeepsThen();
        counts();
        Check.end("KeepTest");
    }

    /** How many of n drawn worlds are among the told ones, reckoned apart from the class. */
    private static int drawn(int n, int z, int mask, boolean[] among) {
        int hits = 0;
        int seed = z;
        for (int i = 0; i < n; i++) {
            long next = (long) seed * 1664525L + 1013904223L;
            seed = (int) next;
            int draw = (int) (((seed & 0xffffffffL) % 2147483648L / 256L) % 1024L);
            if (among[draw & mask]) {
                hits++;
            }
        }
        return hits;
    }

    private static void draws() {
        int mask = 3 + 16 * 3;
        int[] seeds = {0, 1, -1, 5, 12345, -987654321, Integer.MAX_VALUE, Integer.MIN_VALUE};
        for (int z : seeds) {
            TrueOneWay x = Check.landOf("r01;f;f;s0a01;s0j00;");
            x.fact(0, 1);
            boolean[] fitting = new boolean[1024];
            boolean[] good = new boolean[1024];
            for (int world = 0; world < 1024; world++) {
                if ((world & ~mask) == 0) {
                    fitting[world] = x.fits(world) == 1;
                    good[world] = fitting[world] && world % 2 == 1;
                }
            }
            for (int n = 1; n <= 30; n++) {
                Check.due("lands(" + n + ", " + z + ", 0)", drawn(n, z, mask, fitting), x.lands(n, z, 0));
                Check.due("lands(" + n + ", " + z + ", 1)", drawn(n, z, mask, good), x.lands(n, z, 1));
            }
        }
        Check.due("nothing there: all fit", 30, new TrueOneWay().lands(30, 77, 0));
        Check.due("nothing there: all good", 30, new TrueOneWay().lands(30, 77, 1));
    }

    private static void drawsRefused() {
        TrueOneWay x = new TrueOneWay();
        Check.due("lands(0, 0, 0)", -4, x.lands(0, 0, 0));
        Check.due("lands(0, 0, 9), both wrong", -4, x.lands(0, 0, 9));
        Check.due("lands(31, 0, 0)", -6, x.lands(31, 0, 0));
        Check.due("lands(31, 0, 9), both wrong", -6, x.lands(31, 0, 9));
        Check.due("lands(30, 0, 2)", -2, x.lands(30, 0, 2));
        Check.due("lands(1, 0, -1)", -2, x.lands(1, 0, -1));
        Check.due("lands(1, 0, 0)", 1, x.lands(1, 0, 0));
    }

    private static void judged() {
        TrueOneWay x = Check.landOf("r01;f;f;s0j00;s0f00;s0n10;");
        Check.due("a world that fits", -9, x.judge(1 + 32 + 64));
        Check.due("the joker forward", -9, x.judge(1 + 16 + 32 + 64));
        Check.due("the first sign that does not fit", 101, x.judge(1));
        Check.due("the second", 102, x.judge(0));
        Check.due("the second, forward", 102, x.judge(1 + 2 + 32 + 64));
        x.fact(1, 1);
        x.way(0, 0);
        Check.due("the first found thing that is not so", 0, x.judge(1 + 16 + 32 + 64));
        Check.due("the second found thing", 1, x.judge(1 + 2 + 16 + 32));
        Check.due("found ahead of fitting", 0, x.judge(16));
        Check.due("found are so, one does not fit", 101, x.judge(2 + 32));
        Check.due("all is so", -9, x.judge(1 + 2 + 32));
        Check.due("sign 0 does not fit", 100, Check.landOf("r01;f;s0f00;").judge(1));
        Check.due("judge(-1)", -1, x.judge(-1));
        Check.due("judge(4)", -1, x.judge(4));
        Check.due("judge(128)", -1, x.judge(128));
        Check.due("count(11)", 3, x.count(11));
    }

    private static void countsAre(TrueOneWay x, String when, int... want) {
        for (int what = 0; what < want.length; what++) {
            Check.due(when + ": count(" + what + ")", want[what], x.count(what));
        }
    }

    private static void imageAndOn() {
        TrueOneWay x = Check.landOf("n5;r01;f;s0f00;l20;i120;");
        Check.due("on() ahead of an image", -3, x.on());
        x.fact(0, 1);
        x.row(0);
        x.letter('f');
        Check.due("image()", 1, x.image());
        countsAre(x, "an image changes nothing", 5, 1, 1, 1, 1, 2, 1, 1, 1, 1);
        Check.due("letter", 2, x.letter(';'));
        Check.due("land()", 1, x.land());
        Check.due("land()", 7, Check.tell(x, "n6;r05;s1n10;s0j00;l01;l21;i541;"));
        x.way(1, 0);
        x.letter('r');
        x.letter('0');
        countsAre(x, "more is told", 6, 2, 2, 3, 2, 8, 2, 1, 2, 1);
        Check.due("on()", 1, x.on());
        countsAre(x, "as then, without a row, with the letters", 5, 1, 1, 1, 1, 2, 1, 0, 2, 1);
        Check.due("count(13)", 1, x.count(13));
        Check.due("shown(0)", 0, x.shown(0));
        Check.due("shown(2)", 1, x.shown(2));
        Check.due("road(0, 2)", 1, x.road(0, 2));
        Check.due("road(1, 0)", -1, x.road(1, 0));
        Check.due("sign(0, 0)", 0, x.sign(0, 0));
        Check.due("go(1, 0), the inn as then", 0, x.go(1, 0));
        Check.due("worlds(0)", 17, x.worlds(0));
        Check.due("good(0)", 0, x.good(0));
        Check.due("fits(0)", 1, x.fits(0));
        Check.due("forget()", 0, x.forget());
        Check.due("worlds(0)", 0, x.worlds(0));
        Check.due("on() once more", 1, x.on());
        Check.due("worlds(0)", 17, x.worlds(0));
    }

    private static void imageKeepsThen() {
        // What comes behind an image, or behind on, does not change the image; a later image takes its place.
        TrueOneWay x = new TrueOneWay();
        Check.due("image() of nothing", 0, x.image());
        Check.due("land()", 4, Check.tell(x, "r01;f;s0f00;l00;"));
        x.fact(0, 0);
        Check.due("on()", 0, x.on());
        countsAre(x, "nothing is told", 4, 0, 0, 0, 0, 1, 1, 0, 0, 0);
        Check.due("shown(0)", 0, x.shown(0));
        Check.due("land()", 2, Check.tell(x, "f;i010;"));
        Check.due("on()", 0, x.on());
        countsAre(x, "nothing is told again", 4, 0, 0, 0, 0, 1, 1, 0, 0, 0);
        Check.due("land()", 3, Check.tell(x, "r01;f;s0f00;"));
        x.fact(0, 1);
        x.fact(0, 0);
        Check.due("image() of two", 2, x.image());
        x.forget();
        x.forget();
        x.way(0, 1);
        Check.due("on()", 2, x.on());
        Check.due("judge(17)", 1, x.judge(17));
        Check.due("judge(0)", 0, x.judge(0));
        Check.due("proof()", 3, x.proof());
        x.forget();
        x.forget();
        x.way(0, 0);
        x.way(0, 0);
        Check.due("on() from other found things", 2, x.on());
        Check.due("judge(17)", 1, x.judge(17));
        x.row(0);
        Check.due("on()", 2, x.on());
        Check.due("the row has none", 0, x.count(7));
        Check.due("book(0)", -3, x.book(0));
    }

    private static void counts() {
        TrueOneWay x = Check.landOf("n5;r01;r12;r23;f;f;s0j00;");
        x.fact(0, 1);
        x.row(0);
        x.row(0);
        x.letter(';');
        countsAre(x, "counts", 5, 3, 2, 1, 1, 8, 4, 2, 1, 0);
        int[] none = {-1, 10, 17, 18, 100, Integer.MAX_VALUE, Integer.MIN_VALUE};
        for (int what : none) {
            Check.due("count(" + what + ")", -9, x.count(what));
        }
        x.fits(-1);
        x.fits(-1);
        x.sure(9);
        x.sure(9);
        x.sure(9);
        x.on();
        x.worlds(-2);
        x.joking(4);
        x.joking(5);
        int[] refusals = {2, 3, 1, 1, 0, 2};
        for (int i = 0; i < 6; i++) {
            Check.due("count(" + (11 + i) + ")", refusals[i], x.count(11 + i));
        }
        countsAre(x, "refusals change nothing else", 5, 3, 2, 1, 1, 8, 4, 2, 1, 0);
    }
}
