/** Promises 7 to 16: worlds, what is found, what is sure, proof, what a way would tell. */
public final class WorldTest {
    public static void main(String[] args) {
        kindsSay();
        fitting();
        noSuchWorld();
        goodWorlds();
        findingAndForgetting();
        sureAndOpen();
        noneGood();
        proofs();
        waysTell();
        Check.end("WorldTest");
    }

    /** Of a world as told: facts, and the signs that are true forward. */
    private static int world(int facts, int signs) {
        return facts + 16 * signs;
    }

    private static void kindsSay() {
        TrueOneWay x = Check.landOf("r01;f;f;s0f00;s0n00;s0a01;s0o01;s0x01;s0w20;");
        int[][] want = {{0, 1, 0, 0, 0, 0}, {1, 0, 0, 1, 1, 0}, {0, 1, 0, 1, 1, 0}, {1, 0, 1, 1, 0, 0}};
        for (int facts = 0; facts < 4; facts++) {
            for (int sign = 0; sign < 6; sign++) {
                String call = "says(" + sign + ", " + facts + ")";
                Check.due(call, want[facts][sign], x.says(sign, facts));
                Check.due(call + ", all signs but the third", want[facts][sign], x.says(sign, world(facts, 59)));
            }
            Check.due("says(5) with the third forward", 1, x.says(5, world(facts, 4)));
        }
        x = Check.landOf("r01;f;s0j00;s0w10;s0a00;s0x00;");
        Check.due("a joker says nothing", 0, x.says(0, world(1, 15)));
        Check.due("of itself, forward", 1, x.says(1, world(0, 2)));
        Check.due("of itself, not", 0, x.says(1, world(1, 13)));
        Check.due("and, of one fact twice", 1, x.says(2, 1));
        Check.due("either, of one fact twice", 0, x.says(3, 1));
        Check.due("says(4, 0)", -1, x.says(4, 0));
        Check.due("says(-1, 0)", -1, x.says(-1, 0));
        Check.due("says(0, -1)", -1, x.says(0, -1));
        Check.due("says(0, 2), no such fact", -1, x.says(0, 2));
        Check.due("says(0, 256), no such sign", -1, x.says(0, 256));
        Check.due("count(11)", 5, x.count(11));
    }

    private static void fitting() {
        TrueOneWay x = Check.landOf("r01;f;f;s0a01;s0w00;s0j00;");
        for (int facts = 0; facts < 4; facts++) {
            for (int signs = 0; signs < 8; signs++) {
                boolean both = facts == 3;
                boolean fits = both == (signs % 2 == 1) && both == (signs / 2 % 2 == 1);
                Check.due("fits(" + world(facts, signs) + ")", fits ? 1 : 0, x.fits(world(facts, signs)));
                Check.due("good(" + world(facts, signs) + ")", fits ? 1 : 0, x.good(world(facts, signs)));
            }
        }
        Check.due("count(5)", 8, x.count(5));
    }

    private static void noSuchWorld() {
        TrueOneWay x = Check.landOf("r01;f;s0f00;");
        int[] wrong = {-1, 2, 3, 4, 8, 32, 48, 1024, 1025, Integer.MAX_VALUE, Integer.MIN_VALUE, Integer.MIN_VALUE + 1};
        for (int world : wrong) {
            Check.due("fits(" + world + ")", -1, x.fits(world));
            Check.due("good(" + world + ")", -1, x.good(world));
            Check.due("says(0, " + world + ")", -1, x.says(0, world));
            Check.due("judge(" + world + ")", -1, x.judge(world));
        }
        Check.due("count(11)", 4 * wrong.length, x.count(11));
    }

    private static void goodWorlds() {
        TrueOneWay x = Check.landOf("r01;f;f;s0o01;");
        int[] want = {0, 17, 18, 19};
        Check.due("worlds(-1)", 4, x.worlds(-1));
        for (int i = 0; i < 4; i++) {
            Check.due("worlds(" + i + ")", want[i], x.worlds(i));
        }
        Check.due("worlds(4)", -9, x.worlds(4));
        Check.due("worlds(greatest int)", -9, x.worlds(Integer.MAX_VALUE));
        Check.due("worlds(-2)", -4, x.worlds(-2));
        Check.due("worlds(least int)", -4, x.worlds(Integer.MIN_VALUE));
        Check.due("-9 is no refusal", 2, x.count(14));
        Check.due("way(0, 1)", 1, x.way(0, 1));
        Check.due("worlds(-1) found", 3, x.worlds(-1));
        Check.due("worlds(0) found", 17, x.worlds(0));
        Check.due("worlds(3) found", -9, x.worlds(3));
        Check.due("fits(0) found", 1, x.fits(0));
        Check.due("good(0) found", 0, x.good(0));
        Check.due("good(18) found", 1, x.good(18));
        Check.due("good(2) found", 0, x.good(2));
        Check.due("count(5)", 4, x.count(5));
        Check.due("count(6)", 3, x.count(6));
        Check.due("fact(1, 0)", 2, x.fact(1, 0));
        Check.due("worlds(-1) found both", 1, x.worlds(-1));
        Check.due("land() with found things", 2, Check.tell(x, "f;s0n20;"));
        Check.due("found things stay", 2, x.count(4));
        Check.due("worlds(-1) of more", 2, x.worlds(-1));
        Check.due("worlds(0) of more", 21, x.worlds(0));
        Check.due("worlds(1) of more", 49, x.worlds(1));
    }

    private static void findingAndForgetting() {
        TrueOneWay x = Check.landOf("r01;f;s0f00;");
        Check.due("forget()", -3, x.forget());
        Check.due("fact(1, 0)", -1, x.fact(1, 0));
        Check.due("fact(-1, 0)", -1, x.fact(-1, 0));
        Check.due("fact(1, 2), both wrong", -1, x.fact(1, 2));
        Check.due("fact(0, 2)", -2, x.fact(0, 2));
        Check.due("fact(0, -1)", -2, x.fact(0, -1));
        Check.due("way(1, 0)", -1, x.way(1, 0));
        Check.due("way(-1, 0)", -1, x.way(-1, 0));
        Check.due("way(1, 2), both wrong", -1, x.way(1, 2));
        Check.due("way(0, 2)", -2, x.way(0, 2));
        Check.due("way(0, -1)", -2, x.way(0, -1));
        for (int i = 1; i <= 12; i++) {
            Check.due("found " + i, i, i % 2 == 0 ? x.fact(0, 1) : x.way(0, 1));
        }
        Check.due("fact(0, 0) without room", -6, x.fact(0, 0));
        Check.due("way(0, 0) without room", -6, x.way(0, 0));
        Check.due("fact(0, 2) without room", -2, x.fact(0, 2));
        Check.due("way(1, 0) without room", -1, x.way(1, 0));
        Check.due("count(4)", 12, x.count(4));
        Check.due("nothing changed", 1, x.count(6));
        for (int left = 11; left >= 0; left--) {
            Check.due("forget()", left, x.forget());
        }
        Check.due("forget() of none", -3, x.forget());
        Check.due("count(6)", 2, x.count(6));
        Check.due("count(13)", 2, x.count(13));
        Check.due("fact(0, 0)", 1, x.fact(0, 0));
        Check.due("worlds(0)", 0, x.worlds(0));
        Check.due("fact(0, 1)", 2, x.fact(0, 1));
        Check.due("count(6)", 0, x.count(6));
        Check.due("the latest is forgotten", 1, x.forget());
        Check.due("worlds(0)", 0, x.worlds(0));
        Check.due("count(6)", 1, x.count(6));
    }

    private static void sureIs(TrueOneWay x, String when, int... want) {
        for (int what = 0; what < 6; what++) {
            Check.due(when + ": sure(" + what + ")", want[what], x.sure(what));
        }
    }

    private static void sureAndOpen() {
        TrueOneWay x = Check.landOf("r01;f;f;f;s0a01;s0n20;s0j00;");
        sureIs(x, "at first", 0, 0, 7, 0, 0, 7);
        x.way(0, 1);
        sureIs(x, "and is forward", 3, 0, 4, 1, 0, 6);
        x.fact(2, 1);
        sureIs(x, "third is so", 7, 0, 0, 1, 2, 4);
        x.forget();
        x.fact(2, 0);
        sureIs(x, "third is not so", 3, 4, 0, 3, 0, 4);
        x.way(2, 0);
        sureIs(x, "joker is not forward", 3, 4, 0, 3, 4, 0);
        Check.due("sure(6)", -2, x.sure(6));
        Check.due("sure(-1)", -2, x.sure(-1));
        Check.due("count(12)", 2, x.count(12));
    }

    private static void noneGood() {
        TrueOneWay x = Check.landOf("r01;f;f;s0f00;s0j00;s0j00;");
        x.fact(0, 1);
        x.fact(0, 0);
        sureIs(x, "none is good", 3, 3, 0, 7, 7, 0);
        Check.due("worlds(-1)", 0, x.worlds(-1));
        Check.due("worlds(0)", -9, x.worlds(0));
        Check.due("tells(0, 1)", 0, x.tells(0, 1));
        Check.due("next()", -9, x.next());
        Check.due("together(0)", 3, x.together(0));
        Check.due("fewest(1, 0)", 0, x.fewest(1, 0));
        Check.due("fewest(1, 1)", 0, x.fewest(1, 1));
        Check.due("joking(3)", 3, x.joking(3));
        Check.due("bears(1)", 6, x.bears(1));
        Check.due("lands(30, 1, 1)", 0, x.lands(30, 1, 1));
    }

    private static void proofs() {
        TrueOneWay x = Check.landOf("r01;f;f;f;s0a01;s0o12;s0x00;s0w10;");
        Check.due("proof() of nothing", 0, x.proof());
        x.fact(0, 1);
        x.fact(2, 0);
        x.fact(1, 1);
        Check.due("proof() while some is good", 0, x.proof());
        x.way(0, 0);
        Check.due("first, second and that not both", 13, x.proof());
        x.fact(0, 1);
        Check.due("of several the least", 13, x.proof());
        x.way(1, 0);
        Check.due("two are fewer", 36, x.proof());
        x.way(3, 1);
        Check.due("of two and two the least", 36, x.proof());
        x.way(2, 1);
        Check.due("one alone, either of one twice", 128, x.proof());
        x = Check.landOf("r01;f;s0j00;");
        for (int i = 0; i < 11; i++) {
            x.way(0, 1);
        }
        x.way(0, 0);
        Check.due("the first with the last", 2049, x.proof());
        // A sign of itself can be either way, so nothing clashes without what is found.
        x = Check.landOf("r01;f;s0w00;s0n00;s0f00;");
        x.way(0, 1);
        x.way(1, 1);
        Check.due("proof()", 0, x.proof());
        x.way(2, 1);
        Check.due("not and plain", 6, x.proof());
    }

    private static void waysTell() {
        TrueOneWay x = Check.landOf("r01;f;f;f;s0a01;s0o01;s0x02;s0j00;");
        int[][] want = {{0, 3}, {3, 0}, {0, 0}, {0, 0}};
        for (int sign = 0; sign < want.length; sign++) {
            for (int is = 0; is < 2; is++) {
                Check.due("tells(" + sign + ", " + is + ")", want[sign][is], x.tells(sign, is));
            }
        }
        x.fact(0, 1);
        Check.due("tells(0, 1), first so", 2, x.tells(0, 1));
        Check.due("tells(0, 0), first so", 2, x.tells(0, 0));
        Check.due("tells(2, 1), first so", 4, x.tells(2, 1));
        Check.due("none is good then: all open ones", 6, x.tells(1, 0));
        Check.due("tells nothing new", 0, x.tells(1, 1));
        Check.due("tells(4, 0)", -1, x.tells(4, 0));
        Check.due("tells(-1, 0)", -1, x.tells(-1, 0));
        Check.due("tells(4, 2), both wrong", -1, x.tells(4, 2));
        Check.due("tells(0, 2)", -2, x.tells(0, 2));
        Check.due("tells(0, -1)", -2, x.tells(0, -1));
        Check.due("nothing is found by it", 1, x.count(4));
    }
}
