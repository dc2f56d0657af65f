/** The edges of worlds and found things, sentence by sentence: what signs say, promises 7 to 16. */
final class WorldEdges {
    private static final String FOUR_FACTS = "r01;f;f;f;f;";

    private WorldEdges() {
    }

    static void all() {
        worldsAsTold();
        plain();
        not();
        and();
        or();
        either();
        way();
        joker();
        anyDigit();
        fitting();
        foundThings();
        goodOnes();
        sureOnes();
        sureOfNone();
        sureSigns();
        proofOfFewest();
        proofOfLeast();
        proofWhileSomeIsGood();
        tellsIfKnown();
        tellsOfNone();
        promise7();
        promise8();
        promise9();
        promise10();
        promise11();
        promise12();
        promise13();
        promise14();
        promise15();
        promise16();
    }

    private static void terms(String quote) {
        Doc.says("Terms", quote);
    }

    private static String land(int facts, int signs) {
        return "r01;" + "f;".repeat(facts) + "s0j00;".repeat(signs);
    }

    private static void worldsAsTold() {
        terms("A WORLD: which FACTS are so (bits) and which SIGNS are true FORWARD (to who goes from its ROAD's first"
                + " PLACE to the second; bits): told as FACTS and 16 times SIGNS.");
        for (int facts = 0; facts <= 4; facts++) {
            for (int signs = 0; signs <= 6; signs++) {
                TrueOneWay x = Check.landOf(land(facts, signs));
                for (int bit = 0; bit < 32; bit++) {
                    boolean there = bit < 4 ? bit < facts : bit - 4 < signs;
                    Check.due("fits(bit " + bit + ") of " + land(facts, signs), there ? 1 : -1, x.fits(1 << bit));
                }
                int last = (1 << facts) - 1 + 16 * ((1 << signs) - 1);
                Check.due("the last world", 1, x.fits(last));
                Check.due("worlds", 1 << facts + signs, x.worlds(-1));
                Check.due("the last by numbers", last, x.worlds((1 << facts + signs) - 1));
                Check.due("fits(1024)", -1, x.fits(1024));
            }
        }
    }

    /** What is due of a sign that says something of two facts. */
    private interface Said {
        boolean so(boolean a, boolean b);
    }

    private static void says(char kind, Said due) {
        for (int a = 0; a < 4; a++) {
            for (int b = 0; b < 4; b++) {
                String land = FOUR_FACTS + "s0" + kind + a + b + ";";
                TrueOneWay x = Check.landOf(land);
                for (int facts = 0; facts < 16; facts++) {
                    int want = due.so((facts >> a & 1) == 1, (facts >> b & 1) == 1) ? 1 : 0;
                    for (int forward = 0; forward < 2; forward++) {
                        int world = facts + 16 * forward;
                        Check.due("says(0, " + world + ") of " + land, want, x.says(0, world));
                        Check.due("fits(" + world + ") of " + land, want == forward ? 1 : 0, x.fits(world));
                    }
                }
            }
        }
    }

    private static void plain() {
        terms("KINDS, what one SAYS in a WORLD: f PLAIN under SIGN: FACT A is so.");
        says('f', (a, b) -> a);
    }

    private static void not() {
        terms("n NOT under PLAIN: it is not.");
        says('n', (a, b) -> !a);
    }

    private static void and() {
        terms("a AND under PLAIN: FACTS A and B are.");
        says('a', (a, b) -> a && b);
    }

    private static void or() {
        terms("o OR under AND: one of them at least.");
        says('o', (a, b) -> a || b);
    }

    private static void either() {
        terms("x EITHER under AND: just one.");
        says('x', (a, b) -> a != b);
    }

    private static void way() {
        terms("w WAY under SIGN: SIGN A is true FORWARD.");
        for (int number = 0; number < 6; number++) {
            for (int a = 0; a <= number; a++) {
                TrueOneWay x = Check.landOf("r01;f;" + "s0j00;".repeat(number) + "s0w" + a + "0;");
                for (int signs = 0; signs < 1 << number + 1; signs++) {
                    int want = signs >> a & 1;
                    int world = 1 + 16 * signs;
                    Check.due("says(" + number + ", " + world + ") of sign " + a, want, x.says(number, world));
                    Check.due("fits(" + world + ")", want == signs >> number ? 1 : 0, x.fits(world));
                }
            }
        }
    }

    private static void joker() {
        terms("j JOKER under WAY: SAYS nothing (A, B any digits).");
        for (int a = 0; a <= 9; a++) {
            for (int b = 0; b <= 9; b++) {
                TrueOneWay x = Check.landOf("r01;f;s0j" + a + b + ";");
                Check.due("sign(0, 2)", a, x.sign(0, 2));
                Check.due("sign(0, 3)", b, x.sign(0, 3));
                for (int world : new int[] {0, 1, 16, 17}) {
                    Check.due("says(0, " + world + ")", 0, x.says(0, world));
                    Check.due("fits(" + world + ")", 1, x.fits(world));
                }
            }
        }
    }

    private static void anyDigit() {
        terms("(B of PLAIN, NOT, WAY: any digit.)");
        for (char kind : new char[] {'f', 'n', 'w'}) {
            for (int b = 0; b <= 9; b++) {
                TrueOneWay x = Check.landOf("r01;f;s0" + kind + "0" + b + ";");
                Check.due("sign(0, 3)", b, x.sign(0, 3));
                Check.due("says(0, 17)", kind == 'n' ? 0 : 1, x.says(0, 17));
            }
        }
    }

    private static void fitting() {
        terms("A WORLD FITS, if each SIGN but JOKERS is true FORWARD just if what it SAYS is so.");
        TrueOneWay x = Check.landOf("r01;f;" + "s0f00;".repeat(6));
        for (int fact = 0; fact < 2; fact++) {
            for (int signs = 0; signs < 64; signs++) {
                boolean all = signs == (fact == 1 ? 63 : 0);
                Check.due("fits(" + (fact + 16 * signs) + ")", all ? 1 : 0, x.fits(fact + 16 * signs));
            }
        }
        Check.due("count(5)", 2, x.count(5));
        x = Check.landOf("r01;f;s0f00;" + "s0j00;".repeat(5));
        Check.due("count(5) with five jokers", 64, x.count(5));
        Check.due("no signs: all", 16, Check.landOf("f;f;f;f;").count(5));
        Check.due("nothing there: one", 1, new TrueOneWay().count(5));
        Check.due("of itself: either", 2, Check.landOf("r01;s0w00;").count(5));
    }

    private static TrueOneWay found(int number) {
        TrueOneWay x = Check.landOf("r01;f;s0j00;");
        for (int i = 1; i <= number; i++) {
            Check.due("found " + i, i, i % 2 == 0 ? x.fact(0, 1) : x.way(0, 0));
        }
        return x;
    }

    private static void foundThings() {
        terms("FOUND things, as they come (12 at most): that a FACT is so or not; that a SIGN is true FORWARD or not.");
        TrueOneWay x = found(12);
        Check.due("the 13th, a fact", -6, x.fact(0, 1));
        Check.due("the 13th, a sign", -6, x.way(0, 1));
        Check.due("count(4)", 12, x.count(4));
        Check.due("forget()", 11, x.forget());
        Check.due("room again", 12, x.way(0, 1));
        Check.due("none again", -6, x.way(0, 1));
        // Each as it came: the first that is not so in a world.
        x = Check.landOf("r01;f;f;s0j00;s0j00;");
        x.fact(0, 1);
        x.way(0, 1);
        x.fact(1, 0);
        x.way(1, 0);
        int[][] judged = {{0, 0}, {1, 1}, {1 + 2 + 16, 2}, {1 + 16 + 32, 3}, {1 + 16, -9}};
        for (int[] world : judged) {
            Check.due("judge(" + world[0] + ")", world[1], x.judge(world[0]));
        }
    }

    private static void goodOnes() {
        terms("WORLDS that FIT, and in which all FOUND is so: GOOD ones.");
        TrueOneWay x = Check.landOf("r01;f;f;s0f00;");
        int[] fit = {0, 2, 17, 19};
        Check.due("good as fit", 4, x.count(6));
        for (int world = 0; world < 4; world++) {
            Check.due("nothing found: good(" + fit[world] + ")", 1, x.good(fit[world]));
        }
        for (int i = 0; i < 11; i++) {
            x.way(0, 1);
        }
        x.fact(1, 1);
        Check.due("all twelve are so", 1, x.good(19));
        Check.due("the last is not so", 0, x.good(17));
        Check.due("the first is not so", 0, x.good(2));
        Check.due("all are so, it does not fit", 0, x.good(18));
        Check.due("neither", 0, x.good(1));
        Check.due("count(6)", 1, x.count(6));
        Check.due("count(5)", 4, x.count(5));
    }

    private static void sureIs(TrueOneWay x, int... want) {
        for (int what = 0; what < want.length; what++) {
            Check.due("sure(" + what + ")", want[what], x.sure(what));
        }
    }

    private static TrueOneWay contrary(String land) {
        TrueOneWay x = Check.landOf(land);
        Check.due("found so", 1, x.fact(0, 1));
        Check.due("found not so", 2, x.fact(0, 0));
        return x;
    }

    private static void sureOnes() {
        terms("SURE: FACTS (bits) that are so in all GOOD WORLDS, SURELY NOT, OPEN");
        TrueOneWay x = Check.landOf("r01;f;f;f;f;s0a03;");
        sureIs(x, 0, 0, 15);
        x.way(0, 1);
        sureIs(x, 9, 0, 6);
        x.fact(1, 0);
        sureIs(x, 9, 2, 4);
        x.fact(2, 1);
        sureIs(x, 13, 2, 0);
        Check.due("one world", 1, x.worlds(-1));
    }

    private static void sureOfNone() {
        terms("(none GOOD: all SURE and SURELY NOT);");
        for (int facts = 1; facts <= 4; facts++) {
            for (int signs = 0; signs <= 6; signs++) {
                int factBits = (1 << facts) - 1;
                int signBits = (1 << signs) - 1;
                sureIs(contrary(land(facts, signs)), factBits, factBits, 0, signBits, signBits, 0);
            }
        }
        sureIs(new TrueOneWay(), 0, 0, 0, 0, 0, 0);
    }

    private static void sureSigns() {
        terms("likewise SIGNS that are true FORWARD.");
        TrueOneWay x = Check.landOf("r01;f;f;s0f00;s0n00;s0w00;s0w30;s0j00;s0f10;");
        sureIs(x, 0, 0, 3, 0, 0, 63);
        x.fact(0, 1);
        sureIs(x, 1, 0, 2, 5, 2, 56);
        x.way(5, 0);
        sureIs(x, 1, 2, 0, 5, 34, 24);
    }

    private static void proofOfFewest() {
        terms("PROOF: if none is GOOD, the fewest FOUND things that can not all be (with what FITS),");
        // Alone: what never fits. Two, three, four of five: what can not be together.
        TrueOneWay x = Check.landOf("r01;f;f;f;f;s0x00;s0a01;s0x23;");
        x.fact(3, 1);
        x.way(0, 1);
        Check.due("one alone", 2, x.proof());
        x = Check.landOf("r01;f;f;f;f;s0a01;s0x23;");
        x.fact(3, 1);
        x.way(0, 1);
        x.way(1, 0);
        x.fact(1, 0);
        Check.due("two of four", 2 + 8, x.proof());
        x = Check.landOf("r01;f;f;f;f;s0x23;s0a01;");
        x.fact(3, 1);
        x.way(1, 0);
        x.way(0, 0);
        x.fact(2, 0);
        Check.due("three of four", 1 + 4 + 8, x.proof());
        x = Check.landOf("r01;f;f;f;f;s0x01;s0x12;s0x23;");
        for (int sign = 0; sign < 3; sign++) {
            x.way(sign, 0);
        }
        x.fact(0, 1);
        x.fact(3, 0);
        Check.due("all five", 31, x.proof());
        x.fact(3, 0);
        Check.due("five of six", 31, x.proof());
    }

    private static void proofOfLeast() {
        terms("of several the least as bits;");
        TrueOneWay x = Check.landOf("r01;f;f;s0j00;");
        x.fact(0, 1);
        x.fact(1, 1);
        x.fact(1, 0);
        x.fact(0, 0);
        Check.due("second and third, not first and fourth", 6, x.proof());
        x = Check.landOf("r01;f;s0j00;");
        x.fact(0, 0);
        for (int i = 0; i < 11; i++) {
            x.fact(0, 1);
        }
        Check.due("the first two of twelve", 3, x.proof());
        x = Check.landOf("r01;f;s0j00;");
        for (int i = 0; i < 11; i++) {
            x.way(0, 1);
        }
        x.way(0, 0);
        Check.due("the first and the twelfth", 1 + 2048, x.proof());
        x = Check.landOf("r01;f;s0j00;");
        for (int i = 0; i < 6; i++) {
            x.fact(0, 1);
        }
        for (int i = 0; i < 5; i++) {
            x.way(0, 1);
        }
        x.way(0, 0);
        Check.due("the seventh and the twelfth", 64 + 2048, x.proof());
    }

    private static void proofWhileSomeIsGood() {
        terms("0, if some is GOOD.");
        TrueOneWay x = new TrueOneWay();
        Check.due("nothing there", 0, x.proof());
        x = Check.landOf("r01;f;s0f00;");
        for (int i = 0; i < 12; i++) {
            Check.due("proof() with " + i, 0, x.proof());
            x.fact(0, 1);
        }
        Check.due("proof() with 12", 0, x.proof());
        x.forget();
        x.way(0, 0);
        Check.due("proof() with the last not so", 1 + 2048, x.proof());
        x.forget();
        Check.due("proof() without it", 0, x.proof());
        // What was so of other found things ahead of these is forgotten with them.
        x = Check.landOf("r01;f;f;s0x01;");
        x.fact(0, 1);
        x.fact(1, 1);
        x.way(0, 0);
        x.fact(0, 0);
        Check.due("first and fourth", 9, x.proof());
        x.forget();
        x.forget();
        x.way(0, 1);
        Check.due("all three", 7, x.proof());
        x.forget();
        x.forget();
        x.fact(0, 0);
        Check.due("both", 3, x.proof());
    }

    private static void tellsAre(TrueOneWay x, int sign, int ifNot, int ifForward) {
        Check.due("tells(" + sign + ", 0)", ifNot, x.tells(sign, 0));
        Check.due("tells(" + sign + ", 1)", ifForward, x.tells(sign, 1));
    }

    private static void tellsIfKnown() {
        terms("TELLS of a SIGN: FACTS OPEN now that would be OPEN no more, if it were known true FORWARD; if not"
                + " FORWARD");
        TrueOneWay x = Check.landOf("r01;f;f;f;f;s0f30;s0o12;s0x03;s0j00;s0w00;s0a01;");
        tellsAre(x, 0, 8, 8);
        tellsAre(x, 1, 6, 0);
        tellsAre(x, 2, 0, 0);
        tellsAre(x, 3, 0, 0);
        tellsAre(x, 4, 8, 8);
        tellsAre(x, 5, 0, 3);
        x.fact(3, 1);
        tellsAre(x, 2, 1, 1);
        x.fact(0, 0);
        tellsAre(x, 1, 6, 0);
        Check.due("what is not open is not told", 0, x.tells(2, 1) & 9);
    }

    private static void tellsOfNone() {
        terms("(bits; all OPEN ones, if none is GOOD then).");
        TrueOneWay x = Check.landOf("r01;f;f;f;f;s0j00;s0x00;");
        tellsAre(x, 1, 0, 15);
        x.fact(1, 1);
        tellsAre(x, 1, 0, 13);
        x.way(0, 1);
        tellsAre(x, 0, 13, 0);
        x.fact(1, 0);
        tellsAre(x, 0, 0, 0);
        tellsAre(x, 1, 0, 0);
    }

    private static TrueOneWay small() {
        TrueOneWay x = Check.landOf("r01;f;s0f00;");
        x.fact(0, 1);
        x.letter('n');
        x.row(0);
        x.image();
        return x;
    }

    private static void promise7() {
        Doc.promises(7, "Whether a WORLD FITS: 1, 0. -1 (below 0, what is not there).");
        int[] fits = {1, 0, 0, 1};
        int[] told = {0, 1, 16, 17};
        for (int i = 0; i < 4; i++) {
            Twins.unchanged(WorldEdges::small, fits[i], "fits", told[i]);
        }
        for (int world : noWorlds()) {
            Twins.refused(WorldEdges::small, -1, "fits", world);
        }
    }

    /** What is no world where there are one fact and one sign. */
    private static int[] noWorlds() {
        return new int[] {
            -1, -16, Integer.MIN_VALUE, Integer.MIN_VALUE + 17, 2, 3, 8, 15, 18, 32, 48, 49, 512, 1023, 1024, 1041,
            65536, Integer.MAX_VALUE,
        };
    }

    private static void promise8() {
        Doc.promises(8, "Whether it is GOOD: 1, 0. -1 likewise.");
        int[] good = {0, 0, 0, 1};
        int[] told = {0, 1, 16, 17};
        for (int i = 0; i < 4; i++) {
            Twins.unchanged(WorldEdges::small, good[i], "good", told[i]);
        }
        for (int world : noWorlds()) {
            Twins.refused(WorldEdges::small, -1, "good", world);
        }
    }

    private static void promise9() {
        Doc.promises(9, "What a SIGN SAYS: 1 it is so, 0 not; a JOKER 0. -1 either.");
        Twins.unchanged(WorldEdges::small, 1, "says", 0, 1);
        Twins.unchanged(WorldEdges::small, 0, "says", 0, 16);
        TrueOneWay x = Check.landOf("r01;f;s0j00;");
        Check.due("a joker", 0, x.says(0, 17));
        for (int world : noWorlds()) {
            Twins.refused(WorldEdges::small, -1, "says", 0, world);
        }
        for (int sign : new int[] {-1, 1, 6, Integer.MIN_VALUE, Integer.MAX_VALUE}) {
            Twins.refused(WorldEdges::small, -1, "says", sign, 0);
            Twins.refused(WorldEdges::small, -1, "says", sign, -1);
        }
    }

    private static void promise10() {
        Doc.promises(10, "GOOD WORLDS: how many (i -1), the i-th by numbers; -9 none such. -4.");
        Twins.unchanged(WorldEdges::small, 1, "worlds", -1);
        Twins.unchanged(WorldEdges::small, 17, "worlds", 0);
        for (int i : new int[] {1, 2, 1023, 1024, Integer.MAX_VALUE}) {
            Twins.unchanged(WorldEdges::small, -9, "worlds", i);
        }
        for (int i : new int[] {-2, -3, Integer.MIN_VALUE}) {
            Twins.refused(WorldEdges::small, -4, "worlds", i);
        }
        TrueOneWay none = contrary("f;");
        Check.due("worlds(-1), none good", 0, none.worlds(-1));
        Check.due("worlds(0), none good", -9, none.worlds(0));
        TrueOneWay most = Check.landOf(land(4, 6));
        Check.due("worlds(-1) of all", 1024, most.worlds(-1));
        for (int i : new int[] {0, 1, 511, 512, 1022, 1023}) {
            Check.due("worlds(" + i + ") of all", i, most.worlds(i));
        }
        Check.due("worlds(1024) of all", -9, most.worlds(1024));
        most.fact(0, 1);
        most.way(5, 0);
        Check.due("worlds(255) of a quarter", 511, most.worlds(255));
        Check.due("worlds(256) of a quarter", -9, most.worlds(256));
    }

    private static void promise11() {
        Doc.promises(11, "FOUND: a FACT is so (1), not so (0): how many. -1; -2; -6 12.");
        findRefuses("fact");
        for (int is = 0; is < 2; is++) {
            TrueOneWay x = Check.landOf("f;f;f;f;");
            for (int fact = 0; fact < 4; fact++) {
                Check.due("fact(" + fact + ", " + is + ")", fact + 1, x.fact(fact, is));
            }
            Check.due("the one good world", is == 1 ? 15 : 0, x.worlds(0));
            Check.due("fact(4, " + is + ")", -1, x.fact(4, is));
        }
    }

    private static void promise12() {
        Doc.promises(12, "FOUND: a SIGN is true FORWARD (1), not (0): how many. -1; -2; -6 12.");
        findRefuses("way");
        for (int is = 0; is < 2; is++) {
            TrueOneWay x = Check.landOf(land(0, 6));
            for (int sign = 0; sign < 6; sign++) {
                Check.due("way(" + sign + ", " + is + ")", sign + 1, x.way(sign, is));
            }
            Check.due("the one good world", is == 1 ? 16 * 63 : 0, x.worlds(0));
            Check.due("way(6, " + is + ")", -1, x.way(6, is));
        }
    }

    /** There are one fact and one sign; no such thing is told ahead of a wrong is, this ahead of no room. */
    private static void findRefuses(String name) {
        int[] nobody = {-1, 1, 2, 6, 32, Integer.MIN_VALUE, Integer.MAX_VALUE};
        int[] other = {-1, 2, 3, Integer.MIN_VALUE, Integer.MAX_VALUE};
        for (int number : new int[] {0, 12}) {
            for (int which : nobody) {
                Twins.refused(() -> found(number), -1, name, which, 1);
            }
            Twins.refused(() -> found(number), -1, name, 1, 2);
            for (int is : other) {
                Twins.refused(() -> found(number), -2, name, 0, is);
            }
        }
        Twins.refused(() -> found(12), -6, name, 0, 0);
        Twins.refused(() -> found(12), -6, name, 0, 1);
        Check.due("the twelfth", 12, Twins.call(found(11), name, 0, 1));
        Twins.refused(TrueOneWay::new, -1, name, 0, 0);
    }

    private static void promise13() {
        Doc.promises(13, "The latest FOUND thing is none: how many are left. -3 there is none.");
        Twins.refused(TrueOneWay::new, -3, "forget");
        Twins.refused(() -> found(0), -3, "forget");
        TrueOneWay x = Check.landOf("f;f;f;f;");
        for (int fact = 0; fact < 12; fact++) {
            x.fact(fact % 4, 1);
        }
        int[] sure = {15, 15, 15, 15, 15, 15, 15, 15, 7, 3, 1, 0};
        for (int left = 11; left >= 0; left--) {
            Check.due("forget()", left, x.forget());
            Check.due("sure(0) with " + left, sure[11 - left], x.sure(0));
        }
        Check.due("forget() of none", -3, x.forget());
        Check.due("count(4)", 0, x.count(4));
    }

    private static void promise14() {
        Doc.promises(14, "FACTS: SURE (what 0), SURELY NOT (1), OPEN (2); SIGNS: SURE (3), SURELY NOT (4), OPEN (5)"
                + " (bits). -2.");
        int[] want = {1, 0, 0, 1, 0, 0};
        for (int what = 0; what < 6; what++) {
            Twins.unchanged(WorldEdges::small, want[what], "sure", what);
        }
        for (int what : new int[] {-1, 6, 7, Integer.MIN_VALUE, Integer.MAX_VALUE}) {
            Twins.refused(WorldEdges::small, -2, "sure", what);
        }
        TrueOneWay x = Check.landOf(land(4, 6));
        sureIs(x, 0, 0, 15, 0, 0, 63);
        x.fact(3, 1);
        x.way(5, 1);
        x.fact(0, 0);
        x.way(0, 0);
        sureIs(x, 8, 1, 6, 32, 1, 30);
    }

    private static void promise15() {
        Doc.promises(15, "PROOF (bits).");
        Twins.unchanged(WorldEdges::small, 0, "proof");
        Twins.unchanged(() -> contrary("f;"), 3, "proof");
    }

    private static void promise16() {
        Doc.promises(16, "TELLS, if true FORWARD (1), not (0) (bits). -1; -2.");
        for (int is = 0; is < 2; is++) {
            Twins.unchanged(() -> Check.landOf("r01;f;f;s0o01;"), is == 0 ? 3 : 0, "tells", 0, is);
        }
        for (int sign : new int[] {-1, 1, 6, Integer.MIN_VALUE, Integer.MAX_VALUE}) {
            Twins.refused(WorldEdges::small, -1, "tells", sign, 0);
            Twins.refused(WorldEdges::small, -1, "tells", sign, 2);
        }
        for (int is : new int[] {-1, 2, Integer.MIN_VALUE, Integer.MAX_VALUE}) {
            Twins.refused(WorldEdges::small, -2, "tells", 0, is);
        }
        Twins.refused(TrueOneWay::new, -1, "tells", 0, 0);
    }
}
