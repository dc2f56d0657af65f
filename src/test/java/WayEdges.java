/** The edges of going, reading and looking next, sentence by sentence: promises 22 to 25. */
final class WayEdges {
    private WayEdges() {
    }

    static void all() {
        eitherWay();
        isShown();
        looksTwice();
        allCanBe();
        atTheInnAndKnowsIt();
        farthestAndNone();
        goesFirst();
        goesToTheLeast();
        wholeRoadsRead();
        forwardAndBack();
        walksAndEnds();
        nextOfParts();
        nextOfSeveral();
        nextOfNone();
        promise22();
        promise23();
        promise24();
        promise25();
    }

    private static void terms(String quote) {
        Doc.says("Terms", quote);
    }

    private static void goIs(TrueOneWay x, int place, int roads, int first) {
        Check.due("go(" + place + ", 0)", roads, x.go(place, 0));
        Check.due("go(" + place + ", 1)", first, x.go(place, 1));
    }

    private static TrueOneWay found(int is, String land) {
        TrueOneWay x = Check.landOf(land);
        Check.due("fact(0, " + is + ")", 1, x.fact(0, is));
        return x;
    }

    private static void eitherWay() {
        terms("GO from a PLACE: who goes there by ROADS (either way),");
        TrueOneWay x = found(1, "f;r01;r21;i200;");
        goIs(x, 0, 2, 1);
        goIs(x, 1, 1, 2);
        x = found(0, "f;r01;r21;i200;");
        goIs(x, 2, 2, 1);
        goIs(x, 1, 1, 0);
    }

    private static void isShown() {
        terms("is shown what is shown at each PLACE he comes to (at the first, too),");
        TrueOneWay x = Check.landOf("f;r01;r02;l00;i120;r30;");
        goIs(x, 0, 1, 2);
        goIs(x, 3, 2, 0);
        goIs(x, 1, 2, 0);
        // He knows what he was shown before: from 3 by 0 to 1 or 2, and these show nothing.
        x = Check.landOf("n5;f;r01;r12;r13;l00;i230;");
        goIs(x, 0, 2, 1);
        goIs(x, 1, 3, 0);
        goIs(x, 2, 4, 1);
        // Two facts at two places are both known in the end; one alone would not do.
        x = Check.landOf("n6;f;f;r01;r12;r23;s0x01;l10;i031;");
        goIs(x, 1, -9, -9);
        x.way(0, 1);
        goIs(x, 1, 2, 2);
    }

    private static void looksTwice() {
        terms("and chooses by that;");
        // At 1 he sees what does not matter to him; what he saw at 0 he still knows.
        TrueOneWay x = Check.landOf("f;f;r01;r13;r02;l00;l11;i230;");
        goIs(x, 0, 2, 1);
        goIs(x, 1, 3, 0);
        // What he sees at 1 tells him where the inn is, or he sees it at 2 on his way.
        x = Check.landOf("n6;f;f;r01;r12;r13;r24;r25;s0o01;l10;l21;i451;");
        x.way(0, 1);
        goIs(x, 1, 2, 2);
        goIs(x, 0, 3, 1);
        // All four facts at once, with all the roads.
        x = Check.landOf("n6;r01;r02;r03;r04;r05;r12;r34;r45;f;f;f;f;l00;l01;l02;l03;i453;");
        goIs(x, 0, 1, 5);
        goIs(x, 1, 2, 0);
        goIs(x, 4, 2, 0);
        x.fact(3, 1);
        goIs(x, 0, 1, 4);
        goIs(x, 5, 1, 4);
        goIs(x, 3, 1, 4);
        for (int fact = 0; fact < 4; fact++) {
            x.fact(fact, 1);
        }
        Check.due("one world", 15, x.worlds(0));
        goIs(x, 2, 2, 0);
        // Two places are the fewest.
        x = Check.landOf("n2;f;r01;l00;i010;");
        goIs(x, 0, 1, 1);
        goIs(x, 1, 2, 0);
    }

    private static void allCanBe() {
        terms("all GOOD WORLDS can be.");
        TrueOneWay x = Check.landOf("r01;f;s0f00;i010;");
        goIs(x, 0, -9, -9);
        x.way(0, 1);
        goIs(x, 0, 0, -9);
        goIs(x, 1, 1, 0);
        x.forget();
        x.way(0, 0);
        goIs(x, 0, 1, 1);
        goIs(x, 1, 0, -9);
        x.forget();
        goIs(x, 1, -9, -9);
    }

    private static void atTheInnAndKnowsIt() {
        terms("The least number of ROADS by which he is at THE INN in any case and knows it");
        // At 0 the inn may be, but he has to look at 2.
        TrueOneWay x = Check.landOf("f;i010;r01;l20;r12;");
        goIs(x, 0, 4, 1);
        goIs(x, 1, 3, 2);
        goIs(x, 2, 2, 1);
        goIs(x, 3, -9, -9);
        // The inn is at 1 or 2, the farther one counts.
        goIs(Check.landOf("n5;f;r01;r13;r32;l00;i210;"), 0, 3, 1);
        goIs(Check.landOf("n5;f;r01;r13;r32;l00;i120;"), 0, 3, 1);
        // A road more is a shorter way.
        goIs(Check.landOf("n5;f;r01;r13;r32;r20;l00;i210;"), 0, 1, 1);
    }

    private static void farthestAndNone() {
        terms("(20 at most; none GOOD: 0); -9;");
        // All six places are seen by 9 roads at most, and the inn is 5 off at most, so no land comes near to 20.
        TrueOneWay x = Check.landOf("n6;r01;r12;r23;r34;r45;f;l00;i540;");
        int[] roads = {5, 6, 7, 8, 9, 10};
        int[] first = {1, 0, 1, 2, 3, 4};
        for (int place = 0; place < 6; place++) {
            goIs(x, place, roads[place], first[place]);
        }
        for (String land : new String[] {"f;i010;", "n6;r01;f;l00;i540;", "f;r01;r12;r23;l00;i300;"}) {
            TrueOneWay none = found(1, land);
            none.fact(0, 0);
            for (int place = 0; place < none.count(0); place++) {
                goIs(none, place, 0, -9);
            }
        }
        goIs(Check.landOf("f;r01;r12;i020;"), 0, -9, -9);
        goIs(found(1, "f;r01;i200;"), 0, -9, -9);
        goIs(found(0, "f;r01;i200;"), 1, 1, 0);
    }

    private static void goesFirst() {
        terms("where he goes first, if the first GOOD WORLD is so");
        TrueOneWay x = Check.landOf("f;f;r01;r02;r03;l00;i120;");
        goIs(x, 0, 1, 2);
        x.fact(1, 1);
        goIs(x, 0, 1, 2);
        x.fact(0, 1);
        goIs(x, 0, 1, 1);
        // In the first good world the fact is so, if the sign has it that one at least is and the other is not.
        x = Check.landOf("f;f;r01;r02;l00;l01;i120;s0o01;");
        x.way(0, 1);
        Check.due("worlds(0)", 17, x.worlds(0));
        goIs(x, 0, 1, 1);
        x.fact(1, 1);
        Check.due("worlds(0)", 18, x.worlds(0));
        goIs(x, 0, 1, 2);
    }

    private static void goesToTheLeast() {
        terms("(of several the least PLACE; -9 he is there, or it can not be).");
        for (int is = 0; is < 2; is++) {
            // From 5 to 0 by any of 1, 3, 4, told in another order.
            TrueOneWay x = found(is, "n6;r54;r40;r53;r30;r15;r01;f;i" + (is == 1 ? "02" : "20") + "0;");
            goIs(x, 5, 2, 1);
            goIs(x, 0, 0, -9);
            goIs(x, 2, -9, -9);
        }
        goIs(found(1, "f;r31;r12;r10;r02;i230;"), 3, 2, 1);
        goIs(found(1, "f;r30;r31;r12;r02;i230;"), 3, 2, 0);
        goIs(found(1, "f;r32;r23;i230;"), 3, 1, 2);
        // In the first good world he could be there, but not in any case.
        TrueOneWay part = Check.landOf("f;r01;l00;i310;");
        goIs(part, 0, -9, -9);
        part.fact(0, 0);
        goIs(part, 0, 1, 1);
    }

    private static void bookIs(TrueOneWay x, int walks, int ends, int... signs) {
        for (int what = 0; what < 2; what++) {
            StringBuilder name = new StringBuilder("book(" + what + ") of");
            for (int i = 0; i < signs.length; i++) {
                name.append(' ').append(signs[i]);
                Check.due("row(" + signs[i] + ")", i + 1, x.row(signs[i]));
            }
            Check.due(name.toString(), what == 0 ? walks : ends, x.book(what));
        }
    }

    private static void wholeRoadsRead() {
        terms("BOOK: a ROW of SIGNS as they were read by one who went ROADS that have SIGNS alone, one behind the"
                + " other, all SIGNS of each");
        // Signs 0 and 1 from 0 to 1, sign 2 from 2 to 3; from 1 to 2 there is none to read.
        TrueOneWay x = Check.landOf("r01;r12;r23;s0j00;s0j00;s2j00;");
        bookIs(x, 1, 2, 0, 1);
        bookIs(x, 0, 0, 0);
        bookIs(x, 0, 0, 1);
        bookIs(x, 0, 0, 0, 1, 1);
        bookIs(x, 0, 0, 0, 1, 2);
        bookIs(x, 0, 0, 0, 2);
        bookIs(x, 0, 0, 0, 0);
        bookIs(x, 2, 12, 2);
        bookIs(x, 2, 12, 2, 2);
        Check.due("a sign on the road between", 1, Check.tell(x, "s1j00;"));
        bookIs(x, 1, 8, 0, 1, 3, 2);
        bookIs(x, 1, 1, 2, 3, 1, 0);
        bookIs(x, 0, 0, 0, 1, 2);
        bookIs(x, 1, 2, 0, 1, 3, 2, 2, 3);
        bookIs(x, 1, 8, 0, 1, 1, 0, 0, 1, 3, 2, 2, 2);
    }

    private static void forwardAndBack() {
        terms("(FORWARD as they stand, else the other way round):");
        TrueOneWay x = Check.landOf("r20;s0j00;s0j00;s0j00;");
        bookIs(x, 1, 1, 0, 1, 2);
        bookIs(x, 1, 4, 2, 1, 0);
        bookIs(x, 0, 0, 0, 2, 1);
        bookIs(x, 0, 0, 1, 0, 2);
        bookIs(x, 1, 4, 0, 1, 2, 2, 1, 0);
        bookIs(x, 0, 0, 0, 1, 2, 0, 1, 2);
        bookIs(x, 1, 4, 0, 1, 2, 2, 1, 0);
        bookIs(x, 0, 0, 0, 1, 2, 2, 1, 0, 0, 1, 2, 2);
        bookIs(Check.landOf("r20;" + "s0j00;".repeat(6)), 1, 1, 0, 1, 2, 3, 4, 5);
        bookIs(Check.landOf("r20;" + "s0j00;".repeat(6)), 1, 4, 5, 4, 3, 2, 1, 0);
    }

    private static void walksAndEnds() {
        terms("how many WALKS (PLACE where it began, ROADS) there are; PLACES (bits) where they can end.");
        TrueOneWay x = Check.landOf("n6;r45;r54;r01;s0j00;s1j00;s2j00;");
        bookIs(x, 2, 48, 0);
        bookIs(x, 2, 48, 1);
        bookIs(x, 2, 3, 2);
        bookIs(x, 0, 0, 0, 2);
        bookIs(x, 2, 48, 0, 1, 0, 1, 0, 1, 0, 1, 0, 1);
        bookIs(x, 2, 3, 2, 2, 2, 2, 2, 2, 2, 2, 2, 2);
        bookIs(Check.landOf("r01;r12;r23;s0j00;s1j00;s2j00;"), 1, 8, 0, 1, 2);
        // All the roads, a sign on each of the last six.
        x = Check.landOf("n6;r01;r12;r23;r34;r45;r50;r02;r24;s2j00;s3j00;s4j00;s5j00;s6j00;s7j00;");
        bookIs(x, 1, 16, 0, 1, 2, 3, 4, 5);
        bookIs(x, 1, 16, 0, 1, 2, 3, 4, 5, 5, 5, 5, 5);
        bookIs(x, 2, 20, 5);
    }

    private static void nextOfParts() {
        terms("NEXT: the PLACE at which a FACT is shown by which the greater part of GOOD WORLDS (so, not so) is"
                + " least,");
        // Of six worlds the first fact is so in four, or in two; the third in three.
        for (String sign : new String[] {"s0o01;", "s0a01;"}) {
            TrueOneWay x = Check.landOf("r01;f;f;f;" + sign + "l20;l32;");
            x.way(0, sign.charAt(2) == 'o' ? 1 : 0);
            Check.due("worlds(-1)", 6, x.worlds(-1));
            Check.due("next()", 3, x.next());
            Check.due("the third fact at 1, too", 1, Check.tell(x, "l12;"));
            Check.due("next()", 1, x.next());
        }
        // A place is as good as the best of its facts.
        TrueOneWay x = Check.landOf("r01;f;f;f;s0o01;l20;l31;l32;");
        x.way(0, 1);
        Check.due("next()", 3, x.next());
    }

    private static void nextOfSeveral() {
        terms("of several the least; -9 there");
        Check.due("all alike", 1, Check.landOf("f;f;l30;l21;l11;").next());
        Check.due("at the last place", 5, Check.landOf("n6;f;l50;").next());
        Check.due("at the first", 0, Check.landOf("n6;f;f;f;f;l50;l41;l03;").next());
        TrueOneWay x = Check.landOf("r01;f;f;s0o01;l31;l20;");
        x.way(0, 1);
        Check.due("two of three by either", 2, x.next());
    }

    private static void nextOfNone() {
        terms("-9 there is no PLACE that shows an OPEN one.");
        Check.due("nothing there", -9, new TrueOneWay().next());
        Check.due("shown nowhere", -9, Check.landOf("f;f;").next());
        for (int is = 0; is < 2; is++) {
            TrueOneWay x = Check.landOf("f;f;l00;");
            x.fact(0, is);
            Check.due("what is shown is known", -9, x.next());
            x = Check.landOf("f;f;l00;l11;");
            x.fact(0, is);
            Check.due("one is open", 1, x.next());
        }
        TrueOneWay none = found(1, "f;f;l00;l11;");
        none.fact(0, 0);
        Check.due("none good: none open", -9, none.next());
    }

    private static TrueOneWay inn() {
        TrueOneWay x = Check.landOf("r01;r12;f;s0j00;l00;i210;");
        x.row(0);
        x.letter(0);
        x.image();
        return x;
    }

    private static TrueOneWay noInn() {
        TrueOneWay x = Check.landOf("r01;r12;f;s0j00;l00;");
        x.row(0);
        return x;
    }

    private static void promise22() {
        Doc.promises(22, "GO: the least number (what 0; -9), where first (1; -9). -1; -2; -3 there is no INN.");
        Twins.unchanged(WayEdges::inn, 2, "go", 0, 0);
        Twins.unchanged(WayEdges::inn, 1, "go", 0, 1);
        Twins.unchanged(WayEdges::inn, -9, "go", 3, 0);
        Twins.unchanged(WayEdges::inn, -9, "go", 3, 1);
        for (int place : new int[] {-1, 4, 5, 6, Integer.MIN_VALUE, Integer.MAX_VALUE}) {
            for (int what : new int[] {0, 1, 2, -1}) {
                Twins.refused(WayEdges::inn, -1, "go", place, what);
                Twins.refused(WayEdges::noInn, -1, "go", place, what);
            }
        }
        for (int what : new int[] {-1, 2, 3, Integer.MIN_VALUE, Integer.MAX_VALUE}) {
            Twins.refused(WayEdges::inn, -2, "go", 0, what);
            Twins.refused(WayEdges::noInn, -2, "go", 3, what);
        }
        for (int what = 0; what < 2; what++) {
            Twins.refused(WayEdges::noInn, -3, "go", 0, what);
            Twins.refused(TrueOneWay::new, -3, "go", 3, what);
        }
        // Without an inn it is so, if none is good, too.
        TrueOneWay none = found(1, "f;");
        none.fact(0, 0);
        Check.due("no inn, none good", -3, none.go(0, 0));
    }

    private static TrueOneWay read(int number) {
        TrueOneWay x = Check.landOf("r01;r12;s0j00;s1j00;");
        for (int i = 1; i <= number; i++) {
            Check.due("row(0)", i, x.row(0));
        }
        return x;
    }

    private static void promise23() {
        Doc.promises(23, "A SIGN more of the ROW: how many. -1; -6 10.");
        TrueOneWay x = read(9);
        Check.due("the tenth", 10, x.row(1));
        Check.due("the eleventh", -6, x.row(0));
        Check.due("count(7)", 10, x.count(7));
        Check.due("nine times to and fro, and on", 4, x.book(1));
        Check.due("the first of another", 1, x.row(0));
        for (int sign : new int[] {-1, 2, 3, 6, Integer.MIN_VALUE, Integer.MAX_VALUE}) {
            Twins.refused(() -> read(0), -1, "row", sign);
            Twins.refused(() -> read(10), -1, "row", sign);
        }
        for (int sign = 0; sign < 2; sign++) {
            Twins.refused(() -> read(10), -6, "row", sign);
        }
        Twins.refused(TrueOneWay::new, -1, "row", 0);
    }

    private static void promise24() {
        Doc.promises(24, "BOOK: how many WALKS (what 0), PLACES at the end (1, bits); the ROW has none then. -2 (it"
                + " stays); -3 it has none.");
        for (int number : new int[] {1, 2, 10}) {
            for (int what = 0; what < 2; what++) {
                TrueOneWay x = read(number);
                Check.due("book(" + what + ") of " + number, what == 0 ? 2 : 3, x.book(what));
                Check.due("count(7)", 0, x.count(7));
                Check.due("again", -3, x.book(what));
            }
            for (int what : new int[] {-1, 2, 3, Integer.MIN_VALUE, Integer.MAX_VALUE}) {
                Twins.refused(() -> read(number), -2, "book", what);
                Twins.refused(() -> read(0), -2, "book", what);
            }
        }
        Twins.refused(() -> read(0), -3, "book", 0);
        Twins.refused(() -> read(0), -3, "book", 1);
        // With no walk the row has none then, too.
        TrueOneWay x = read(1);
        x.row(1);
        x.row(0);
        Check.due("no walk", 0, x.book(1));
        Check.due("count(7)", 0, x.count(7));
    }

    private static void promise25() {
        Doc.promises(25, "NEXT; -9.");
        Twins.unchanged(WayEdges::inn, 0, "next");
        Twins.unchanged(TrueOneWay::new, -9, "next");
    }
}
