/** The edges of drawn and judged worlds, of images and of refusals, sentence by sentence: promises 26 to 30. */
final class KeepEdges {
    private static final String ALL_JOKERS = "r01;f;f;f;f;" + "s0j00;".repeat(6);
    /** Of a seed the first four draws below 1024. */
    private static final int[][] DRAWS = {
        {0, 755, 41, 246, 339},
        {1, 89, 133, 513, 826},
        {-1, 397, 972, 1004, 875},
        {Integer.MAX_VALUE, 397, 972, 1004, 875},
        {Integer.MIN_VALUE, 755, 41, 246, 339},
        {1000000, 720, 485, 262, 409},
        {-1000000, 790, 620, 231, 268},
    };

    private KeepEdges() {
    }

    static void all() {
        lands();
        draws();
        judged();
        imageKeeps();
        imageLeavesOut();
        firstThatFits();
        nobody();
        other();
        state();
        below();
        room();
        promise26();
        promise27();
        promise28();
        promise29();
        promise30();
        manyCalls();
    }

    private static void terms(String quote) {
        Doc.says("Terms", quote);
    }

    private static void lands() {
        terms("LANDS with a seed z: n times (1 .. 30) a DRAW below 1024 as a WORLD (without what is not there): how"
                + " many of them FIT, how many are GOOD.");
        for (int n = 1; n <= 30; n++) {
            Check.due("all fit, " + n, n, Check.landOf(ALL_JOKERS).lands(n, 7 - n, 0));
            Check.due("all are good, " + n, n, new TrueOneWay().lands(n, 7 - n, 1));
        }
        // The first four of seed 0: 755, 41, 246 and 339. Of fact 0 and sign 0 these are 17, 1, 16 and 17.
        int[] fit = {1, 1, 1, 2};
        for (int n = 1; n <= 4; n++) {
            TrueOneWay x = Check.landOf("r01;f;s0f00;");
            Check.due("lands(" + n + ", 0, 0)", fit[n - 1], x.lands(n, 0, 0));
            Check.due("all that fit are good", fit[n - 1], x.lands(n, 0, 1));
            x.fact(0, 0);
            Check.due("they fit all the same", fit[n - 1], x.lands(n, 0, 0));
            Check.due("none of them is good", 0, x.lands(n, 0, 1));
        }
        // Of three facts without a sign these are 3, 1, 6 and 3.
        TrueOneWay x = Check.landOf("f;f;f;");
        x.fact(1, 1);
        x.fact(2, 0);
        Check.due("lands(4, 0, 1)", 2, x.lands(4, 0, 1));
        Check.due("lands(4, 0, 0)", 4, x.lands(4, 0, 0));
    }

    private static void findWorld(TrueOneWay x, int world) {
        for (int bit = 0; bit < 10; bit++) {
            int is = world >> bit & 1;
            Check.due("found", bit + 1, bit < 4 ? x.fact(bit, is) : x.way(bit - 4, is));
        }
    }

    private static void draws() {
        terms("A DRAW below m: z becomes z times 1664525 and 1013904223 (an int); (z without its sign's bit by 256,"
                + " cut) modulo m.");
        for (int[] row : DRAWS) {
            for (int last = 1; last < row.length; last++) {
                TrueOneWay x = Check.landOf(ALL_JOKERS);
                findWorld(x, row[last]);
                Check.due("seed " + row[0] + ", draw " + last + " is good", 1, x.lands(last, row[0], 1));
                Check.due("ahead of it none is", 0, last == 1 ? 0 : x.lands(last - 1, row[0], 1));
                for (int bit = 0; bit < 10; bit++) {
                    int world = row[last] ^ 1 << bit;
                    TrueOneWay near = Check.landOf(ALL_JOKERS);
                    findWorld(near, world);
                    int want = 0;
                    for (int i = 1; i <= last; i++) {
                        want += row[i] == world ? 1 : 0;
                    }
                    Check.due("unlike draw " + last + " in bit " + bit, want, near.lands(last, row[0], 1));
                }
            }
        }
    }

    private static void judged() {
        terms("JUDGED: a told WORLD: the first FOUND thing that is not so; 100 and the first SIGN that does not FIT,"
                + " if all are; -9.");
        for (int number = 1; number <= 12; number++) {
            TrueOneWay x = Check.landOf("r01;f;s0f00;");
            for (int i = 1; i < number; i++) {
                x.way(0, 1);
            }
            x.fact(0, 1);
            Check.due("the last of " + number + " is not so", number - 1, x.judge(16));
            Check.due("the first is not so", 0, x.judge(0));
            Check.due("all are, and it fits", -9, x.judge(17));
        }
        for (int sign = 0; sign < 6; sign++) {
            TrueOneWay x = Check.landOf("r01;f;" + "s0j00;".repeat(sign) + "s0f00;".repeat(6 - sign));
            Check.due("from " + sign + " on none fits", 100 + sign, x.judge(1 + 16 * ((1 << sign) - 1)));
            Check.due("all fit", -9, x.judge(1 + 16 * 63));
            Check.due("the last does not", 105, x.judge(1 + 16 * 31));
        }
        TrueOneWay x = Check.landOf("r01;f;s0f00;s0j00;");
        x.way(1, 1);
        Check.due("found ahead of what does not fit", 0, x.judge(1));
        Check.due("all found are so", 100, x.judge(1 + 32));
        Check.due("nothing there", -9, new TrueOneWay().judge(0));
    }

    private static TrueOneWay rich() {
        TrueOneWay x = Check.landOf("n5;r01;r24;f;f;s0f00;s1x01;s0j98;l20;i120;");
        x.fact(0, 1);
        x.way(2, 0);
        return x;
    }

    private static void changeAll(TrueOneWay x) {
        Check.due("land()", 9, Check.tell(x, "n6;r05;f;s1n10;l01;l21;i541;s2o12;r35;"));
        x.forget();
        x.forget();
        x.way(1, 1);
        x.fact(0, 0);
        x.fact(2, 0);
        Check.due("count(4)", 3, x.count(4));
    }

    private static void imageKeeps() {
        terms("THE IMAGE: all that is told, FOUND");
        TrueOneWay x = rich();
        Check.due("image()", 2, x.image());
        changeAll(x);
        Check.due("on()", 2, x.on());
        TrueOneWay untouched = rich();
        untouched.image();
        Twins.alike("on from the image", untouched, x);
        // What comes behind on does not change the image.
        x = rich();
        x.image();
        for (int i = 0; i < 3; i++) {
            changeAll(x);
            Check.due("on()", 2, x.on());
        }
        untouched = rich();
        untouched.image();
        Twins.alike("on for the third time", untouched, x);
        // The fullest and the emptiest.
        x = new TrueOneWay();
        Check.due("image() of nothing", 0, x.image());
        fillAndGoOn(x);
        untouched = new TrueOneWay();
        untouched.image();
        Twins.alike("on from nothing", untouched, x);
    }

    private static void fillAndGoOn(TrueOneWay x) {
        String fullest = "r01;".repeat(8) + "f;".repeat(4) + "s0j00;".repeat(6) + "l00;";
        Check.due("land()", 19, Check.tell(x, fullest));
        Check.due("land()", 2, Check.tell(x, "i010;n6;"));
        for (int i = 0; i < 12; i++) {
            x.way(5, 1);
        }
        Check.due("count(4)", 12, x.count(4));
        Check.due("on()", 0, x.on());
    }

    private static void imageLeavesOut() {
        terms("(not the ROW, letters, REFUSALS); ON from it all is as then (the ROW has none).");
        TrueOneWay x = rich();
        x.row(0);
        x.letter('f');
        Check.due("a refusal", -2, x.sure(6));
        Check.due("image()", 2, x.image());
        Check.due("the row is as it was", 1, x.count(7));
        Check.due("the letters, too", 1, x.count(8));
        x.row(1);
        x.letter(';');
        Check.due("a refusal", -2, x.sure(6));
        Check.due("on()", 2, x.on());
        Check.due("the row has none", 0, x.count(7));
        Check.due("book(0)", -3, x.book(0));
        Check.due("letters are as they came", 2, x.count(8));
        Check.due("refusals are as they came", 2, x.count(12));
        Check.due("the letters are a land", 1, x.land());
        Check.due("count(2)", 3, x.count(2));
    }

    /** One road, one fact, one sign, one found thing; no inn, no row, no image. */
    private static TrueOneWay small() {
        TrueOneWay x = Check.landOf("r01;f;s0f00;");
        x.fact(0, 1);
        return x;
    }

    /** All of it wrong: the first refusal that its promise tells is the answer. */
    private static void firstThatFits() {
        terms("REFUSALS (the call answers the number, the first that fits in the order in which it tells them; nothing"
                + " changes but how many there were):");
        Twins.refused(KeepEdges::small, -1, "road", 1, 3);
        Twins.refused(KeepEdges::small, -1, "sign", 1, 4);
        Twins.refused(KeepEdges::small, -1, "says", 1, 2);
        Twins.refused(KeepEdges::small, -1, "fact", 1, 2);
        Twins.refused(KeepEdges::small, -1, "way", 1, 2);
        Twins.refused(KeepEdges::small, -1, "tells", 1, 2);
        Twins.refused(KeepEdges::small, -1, "fewest", 1, 2);
        Twins.refused(KeepEdges::small, -1, "go", 4, 2);
        Twins.refused(KeepEdges::small, -2, "go", 0, 2);
        Twins.refused(KeepEdges::small, -3, "go", 0, 1);
        Twins.refused(KeepEdges::small, -2, "book", 2);
        Twins.refused(KeepEdges::small, -3, "book", 1);
        Twins.refused(KeepEdges::small, -4, "lands", 0, 0, 2);
        Twins.refused(KeepEdges::small, -6, "lands", 31, 0, 2);
        Twins.refused(KeepEdges::small, -2, "lands", 30, 0, 2);
        Twins.refused(KeepEdges::full, -1, "fact", 1, 2);
        Twins.refused(KeepEdges::full, -2, "fact", 0, 2);
        Twins.refused(KeepEdges::full, -6, "fact", 0, 1);
        Twins.refused(KeepEdges::full, -1, "way", 1, 2);
        Twins.refused(KeepEdges::full, -2, "way", 0, 2);
        Twins.refused(KeepEdges::full, -6, "way", 0, 1);
        Twins.refused(KeepEdges::full, -1, "row", 1);
        Twins.refused(KeepEdges::full, -6, "row", 0);
        Twins.refused(KeepEdges::full, -4, "letter", -1);
        Twins.refused(KeepEdges::full, -6, "letter", 256);
        Twins.refused(KeepEdges::full, -6, "letter", 'f');
    }

    /** As small, with no room for letters, found things and the row. */
    private static TrueOneWay full() {
        TrueOneWay x = small();
        for (int i = 0; i < 80; i++) {
            x.letter("n4;".charAt(i % 3));
        }
        for (int i = 0; i < 11; i++) {
            x.way(0, 1);
        }
        for (int i = 0; i < 10; i++) {
            x.row(0);
        }
        Check.due("found", 12, x.count(4));
        Check.due("read", 10, x.count(7));
        Check.due("letters", 80, x.count(8));
        x.image();
        return x;
    }

    private static void counted(TrueOneWay x, int number, int times) {
        for (int other = -1; other >= -6; other--) {
            Check.due("count(" + (10 - other) + ")", other == number ? times : 0, x.count(10 - other));
        }
    }

    private static void nobody() {
        terms("-1 NOBODY: no such PLACE, ROAD, FACT, SIGN, WORLD.");
        TrueOneWay x = small();
        int[] answers = {
            x.road(1, 0), x.sign(1, 0), x.shown(4), x.fits(2), x.good(2), x.says(1, 0), x.says(0, 2), x.fact(1, 0),
            x.way(1, 0), x.tells(1, 0), x.bears(1), x.fewest(1, 0), x.together(2), x.go(4, 0), x.row(1), x.judge(2),
        };
        for (int i = 0; i < answers.length; i++) {
            Check.due("call " + i, -1, answers[i]);
        }
        counted(x, -1, answers.length);
    }

    private static void other() {
        terms("-2 OTHER: what.");
        TrueOneWay x = small();
        int[] answers = {
            x.road(0, 3), x.sign(0, 4), x.fact(0, 2), x.way(0, 2), x.sure(6), x.tells(0, 2), x.fewest(0, 2),
            x.go(0, 2), x.book(2), x.lands(1, 0, 2),
        };
        for (int i = 0; i < answers.length; i++) {
            Check.due("call " + i, -2, answers[i]);
        }
        counted(x, -2, answers.length);
    }

    private static void state() {
        terms("-3 STATE: it is not as it must be.");
        TrueOneWay x = new TrueOneWay();
        int[] answers = {x.forget(), x.go(0, 0), x.book(0), x.on()};
        for (int i = 0; i < answers.length; i++) {
            Check.due("call " + i, -3, answers[i]);
        }
        counted(x, -3, answers.length);
    }

    private static void below() {
        terms("-4 BELOW: a number below the least.");
        TrueOneWay x = small();
        int[] answers = {x.letter(-1), x.worlds(-2), x.joking(-1), x.lands(0, 0, 0), x.lands(Integer.MIN_VALUE, 0, 0)};
        for (int i = 0; i < answers.length; i++) {
            Check.due("call " + i, -4, answers[i]);
        }
        counted(x, -4, answers.length);
    }

    private static void room() {
        terms("-6 ROOM: a number above the greatest, no room.");
        TrueOneWay x = full();
        int[] answers = {
            x.letter(256), x.letter(0), x.fact(0, 0), x.way(0, 0), x.joking(4), x.row(0), x.lands(31, 0, 0),
            x.lands(Integer.MAX_VALUE, 0, 0),
        };
        for (int i = 0; i < answers.length; i++) {
            Check.due("call " + i, -6, answers[i]);
        }
        counted(x, -6, answers.length);
    }

    private static void promise26() {
        Doc.promises(26, "LANDS: how many FIT (what 0), are GOOD (1). -4; -6 30; -2.");
        Twins.unchanged(KeepEdges::small, 1, "lands", 1, 0, 0);
        Twins.unchanged(KeepEdges::small, 1, "lands", 1, 0, 1);
        Twins.unchanged(KeepEdges::small, 0, "lands", 1, 1000000, 1);
        for (int n : new int[] {0, -1, Integer.MIN_VALUE}) {
            Twins.refused(KeepEdges::small, -4, "lands", n, 0, 0);
            Twins.refused(KeepEdges::small, -4, "lands", n, 0, -1);
        }
        for (int n : new int[] {31, 32, 1024, Integer.MAX_VALUE}) {
            Twins.refused(KeepEdges::small, -6, "lands", n, 0, 1);
            Twins.refused(KeepEdges::small, -6, "lands", n, 0, 2);
        }
        for (int what : new int[] {-1, 2, Integer.MIN_VALUE, Integer.MAX_VALUE}) {
            Twins.refused(KeepEdges::small, -2, "lands", 1, 0, what);
            Twins.refused(KeepEdges::small, -2, "lands", 30, 0, what);
        }
    }

    private static void promise27() {
        Doc.promises(27, "JUDGED; -9. -1.");
        Twins.unchanged(KeepEdges::small, 0, "judge", 16);
        Twins.unchanged(KeepEdges::small, 100, "judge", 1);
        Twins.unchanged(KeepEdges::small, -9, "judge", 17);
        for (int world : new int[] {-1, 2, 4, 8, 32, 1024, 1041, Integer.MIN_VALUE, Integer.MIN_VALUE + 17,
            Integer.MAX_VALUE}) {
            Twins.refused(KeepEdges::small, -1, "judge", world);
        }
        Twins.refused(TrueOneWay::new, -1, "judge", 1);
    }

    private static void promise28() {
        Doc.promises(28, "THE IMAGE is taken: how many FOUND things.");
        TrueOneWay x = Check.landOf("f;");
        for (int number = 0; number <= 12; number++) {
            Check.due("image() with " + number, number, x.image());
            Check.due("on() with " + number, number, x.on());
            x.fact(0, 1);
        }
        // A later one takes the former one's place.
        x = small();
        Check.due("image() of one", 1, x.image());
        x.forget();
        Check.due("image() of none", 0, x.image());
        x.fact(0, 1);
        x.fact(0, 1);
        Check.due("on() from the latter", 0, x.on());
        Check.due("count(4)", 0, x.count(4));
    }

    private static void promise29() {
        Doc.promises(29, "ON from it: how many FOUND things. -3 there is none.");
        Twins.refused(TrueOneWay::new, -3, "on");
        Twins.refused(KeepEdges::small, -3, "on");
        TrueOneWay x = small();
        Check.due("image()", 1, x.image());
        Check.due("on()", 1, x.on());
        Check.due("on() again", 1, x.on());
        Check.due("count(13)", 0, x.count(13));
    }

    private static void promise30() {
        Doc.promises(30, "0 PLACES, 1 ROADS, 2 FACTS, 3 SIGNS, 4 FOUND things, 5 WORLDS that FIT, 6 GOOD ones, 7 in the"
                + " ROW, 8 letters, 9 1 there is an INN, 11 .. 16 REFUSALS -1 .. -6. -9 for another what.");
        TrueOneWay x = full();
        Check.due("a letter is too many", -6, x.letter('n'));
        int[] counts = {4, 1, 1, 1, 12, 2, 1, 10, 80, 0, -9, 0, 0, 0, 0, 0, 1, -9};
        for (int what = 0; what < counts.length; what++) {
            Check.due("count(" + what + ")", counts[what], x.count(what));
        }
        for (int what : new int[] {-1, -2, 10, 17, 18, 26, Integer.MIN_VALUE, Integer.MAX_VALUE}) {
            Twins.unchanged(KeepEdges::small, -9, "count", what);
        }
        x = Check.landOf(ALL_JOKERS, "n6;i010;");
        int[] most = {6, 1, 4, 6, 0, 1024, 1024, 0, 0, 1};
        for (int what = 0; what < most.length; what++) {
            Check.due("count(" + what + ") of much", most[what], x.count(what));
        }
    }

    private static void manyCalls() {
        Doc.says("What it is", "An object is used for at most 512 calls after it has been made;");
        TrueOneWay x = new TrueOneWay();
        for (int i = 0; i < 511; i++) {
            Check.due("fits(-1)", -1, x.fits(-1));
        }
        Check.due("the 512th call, count(11)", 511, x.count(11));
        // The dearest calls as often as can be.
        x = Check.landOf(ALL_JOKERS, "l10;i230;");
        while (x.count(4) < 12) {
            x.fact(0, x.count(4) % 2);
        }
        for (int i = 0; i < 300; i++) {
            Check.due("proof()", 3, x.proof());
        }
    }
}
