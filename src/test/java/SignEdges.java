/** The edges of what follows from signs, sentence by sentence: promises 17 to 21. */
final class SignEdges {
    private SignEdges() {
    }

    static void all() {
        rings();
        joking();
        jokingInNone();
        bears();
        fewest();
        fewestWhich();
        together();
        promise17();
        promise18();
        promise19();
        promise20();
        promise21();
    }

    private static void terms(String quote) {
        Doc.says("Terms", quote);
    }

    private static void rings() {
        terms("RINGS: SIGNS (WAY ones) from which by what they speak of one comes back to them (bits).");
        Check.due("no signs", 0, new TrueOneWay().rings());
        for (int number = 0; number < 6; number++) {
            String ahead = "r01;f;f;f;f;" + "s0f00;".repeat(number);
            Check.due("of itself, " + number, 1 << number, Check.landOf(ahead + "s0w" + number + "0;").rings());
            Check.due("a joker, " + number, 0, Check.landOf(ahead + "s0j" + number + number + ";").rings());
            for (int a = 0; a < number; a++) {
                Check.due("of one ahead, " + number, 0, Check.landOf(ahead + "s0w" + a + "0;").rings());
            }
            if (number < 4) {
                for (char kind : new char[] {'f', 'n', 'a', 'o', 'x'}) {
                    String sign = "s0" + kind + number + number + ";";
                    Check.due("of a fact of its number", 0, Check.landOf(ahead + sign).rings());
                }
            }
        }
        Check.due("of one in a ring", 2, Check.landOf("r01;s0j00;s0w10;s0w10;s0w20;s0w00;").rings());
        Check.due("six", 63, Check.landOf("r01;s0w00;s0w10;s0w20;s0w30;s0w40;s0w50;").rings());
    }

    /** So many signs say that the first fact is so, and all of them are found as told. */
    private static TrueOneWay alike(int signs, int forward) {
        TrueOneWay x = Check.landOf("r01;f;f;" + "s0f00;".repeat(signs));
        for (int sign = 0; sign < signs; sign++) {
            x.way(sign, forward);
        }
        return x;
    }

    private static TrueOneWay contrary(String land) {
        TrueOneWay x = Check.landOf(land);
        Check.due("found so", 1, x.fact(0, 1));
        Check.due("found not so", 2, x.fact(0, 0));
        return x;
    }

    private static void joking() {
        terms("JOKING of k (0 .. 3): FACTS that are SURE, if k at most of the SIGNS, whichever, may be JOKERS, too");
        for (int signs = 0; signs <= 6; signs++) {
            TrueOneWay x = alike(signs, 1);
            for (int k = 0; k <= 3; k++) {
                Check.due("joking(" + k + ") of " + signs, k < signs ? 1 : 0, x.joking(k));
            }
            x.fact(1, 1);
            Check.due("what is found is sure", signs > 3 ? 3 : 2, x.joking(3));
        }
        TrueOneWay x = Check.landOf("r01;f;f;f;f;s0f00;s0f10;s0f20;s0f30;");
        for (int sign = 0; sign < 4; sign++) {
            x.way(sign, 1);
        }
        Check.due("none may", 15, x.joking(0));
        Check.due("any one may", 0, x.joking(1));
        x.fact(2, 1);
        Check.due("what is found stays", 4, x.joking(1));
        // One at most, so those by none are among them: with a joker the fact can be, and still not be.
        x = Check.landOf("r01;f;s0f00;");
        x.way(0, 0);
        Check.due("surely not", 0, x.joking(0));
        Check.due("it can be, too", 0, x.joking(1));
        // Told jokers are none of the k.
        x = Check.landOf("r01;f;s0j00;s0j00;s0f00;s0f00;");
        x.way(2, 1);
        x.way(3, 1);
        Check.due("one of two may", 1, x.joking(1));
        Check.due("both may", 0, x.joking(2));
    }

    private static void jokingInNone() {
        terms("(bits; all, if there is no such WORLD).");
        for (int k = 0; k <= 3; k++) {
            for (int facts = 1; facts <= 4; facts++) {
                TrueOneWay x = contrary("r01;" + "f;".repeat(facts) + "s0f00;");
                Check.due("joking(" + k + ")", (1 << facts) - 1, x.joking(k));
            }
            for (int signs = 0; signs <= 6; signs++) {
                TrueOneWay x = alike(signs, 0);
                x.fact(0, 1);
                int want = k < signs ? 3 : 1;
                Check.due("joking(" + k + ") against " + signs, want, x.joking(k));
            }
            Check.due("no facts", 0, new TrueOneWay().joking(k));
        }
    }

    private static void bears() {
        terms("BEARS of a FACT: the greatest k (0 .. 6) by which it is alike in all these; -9.");
        for (int signs = 0; signs <= 6; signs++) {
            for (int forward = 0; forward < 2; forward++) {
                TrueOneWay x = alike(signs, forward);
                Check.due("bears(0) of " + signs, signs == 0 ? -9 : signs - 1, x.bears(0));
                Check.due("bears(1), open", -9, x.bears(1));
                x.fact(0, forward);
                Check.due("bears(0), found", 6, x.bears(0));
            }
        }
        for (int is = 0; is < 2; is++) {
            TrueOneWay x = alike(6, 1);
            x.fact(1, is);
            Check.due("bears(1), found", 6, x.bears(1));
            Check.due("bears(0)", 5, x.bears(0));
        }
        Check.due("none is: alike", 6, contrary("r01;f;f;s0f00;").bears(1));
        // By none of them no world is: alike. By one there are worlds, and unlike ones.
        TrueOneWay x = Check.landOf("r01;f;f;s0f00;s0n00;");
        x.way(0, 1);
        x.way(1, 1);
        Check.due("alike in none, unlike by one", 0, x.bears(0));
        Check.due("the other likewise", 0, x.bears(1));
    }

    private static void fewestIs(TrueOneWay x, int fact, int number, int which) {
        Check.due("fewest(" + fact + ", 0)", number, x.fewest(fact, 0));
        Check.due("fewest(" + fact + ", 1)", which, x.fewest(fact, 1));
    }

    private static void fewest() {
        terms("FEWEST of a FACT: the fewest SIGNS (0 .. 3) so that in GOOD WORLDS alike in the ways of these the FACT"
                + " is alike; -9;");
        TrueOneWay x = Check.landOf("r01;f;f;f;f;s0x01;s0x12;s0x23;s0f30;");
        fewestIs(x, 3, 1, 8);
        fewestIs(x, 2, 2, 12);
        fewestIs(x, 1, 3, 14);
        fewestIs(x, 0, -9, -9);
        x.fact(0, 1);
        fewestIs(x, 0, 0, 0);
        fewestIs(x, 1, 1, 1);
        fewestIs(x, 2, 2, 3);
        fewestIs(x, 3, 1, 8);
        for (int number = 1; number <= 3; number++) {
            String chain = "s0x01;s0x12;s0x23;".substring(0, 6 * (number - 1)) + "s0f" + (number - 1) + "0;";
            fewestIs(Check.landOf("r01;f;f;f;f;" + chain), 0, number, (1 << number) - 1);
        }
        fewestIs(Check.landOf("f;"), 0, -9, -9);
        fewestIs(Check.landOf("r01;f;" + "s0j00;".repeat(6)), 0, -9, -9);
        fewestIs(contrary("r01;f;f;s0f00;"), 0, 0, 0);
        fewestIs(contrary("r01;f;f;s0f00;"), 1, 0, 0);
    }

    private static void fewestWhich() {
        terms("which (bits, of several the least).");
        TrueOneWay x = Check.landOf("r01;f;f;f;s0x01;s0x01;s0f10;s0n10;s0j00;s0j00;");
        fewestIs(x, 0, 2, 5);
        fewestIs(x, 1, 1, 4);
        fewestIs(Check.landOf("r01;f;" + "s0j00;".repeat(5) + "s0f00;"), 0, 1, 32);
        fewestIs(Check.landOf("r01;f;" + "s0f00;".repeat(6)), 0, 1, 1);
        // One sign is fewer than two of lesser bits.
        fewestIs(Check.landOf("r01;f;f;s0x01;s0f10;s0j00;s0f00;"), 0, 1, 8);
    }

    private static void together() {
        terms("TOGETHER: the same for told SIGNS (bits): FACTS that are alike in GOOD WORLDS that are alike in these.");
        TrueOneWay x = Check.landOf("r01;f;f;f;f;s0x01;s0x12;s0x23;s0f30;");
        int[] want = {0, 0, 0, 0, 0, 0, 0, 0, 8, 8, 8, 8, 12, 12, 14, 15};
        for (int signs = 0; signs < 16; signs++) {
            Check.due("together(" + signs + ")", want[signs], x.together(signs));
        }
        x.fact(0, 0);
        Check.due("together(0)", 1, x.together(0));
        Check.due("together(3)", 7, x.together(3));
        Check.due("together(15)", 15, x.together(15));
        // Alike in the worlds in which the sign is forward, not in the others; and the other way round.
        x = Check.landOf("r01;f;f;s0a01;");
        Check.due("if both are so", 0, x.together(1));
        x = Check.landOf("r01;f;f;s0a01;s0f10;");
        x.way(0, 0);
        Check.due("if the second is so", 2, x.together(2));
        x = Check.landOf("r01;f;f;s0o01;");
        Check.due("if neither is so", 0, x.together(1));
        TrueOneWay six = Check.landOf("r01;f;" + "s0j00;".repeat(5) + "s0f00;");
        Check.due("by the sixth", 1, six.together(32));
        Check.due("by the five", 0, six.together(31));
        Check.due("by all six", 1, six.together(63));
        TrueOneWay none = contrary("r01;f;f;f;f;s0f00;");
        Check.due("none good: all alike", 15, none.together(0));
        Check.due("none good: all alike", 15, none.together(1));
    }

    private static TrueOneWay small() {
        TrueOneWay x = Check.landOf("r01;r10;f;f;s0f00;s1w10;i010;l11;");
        x.fact(1, 0);
        x.row(1);
        x.letter('f');
        return x;
    }

    private static void promise17() {
        Doc.promises(17, "RINGS (bits).");
        Twins.unchanged(SignEdges::small, 2, "rings");
        Twins.unchanged(TrueOneWay::new, 0, "rings");
    }

    private static void promise18() {
        Doc.promises(18, "JOKING (bits). -4; -6 3.");
        for (int k = 0; k <= 3; k++) {
            Twins.unchanged(SignEdges::small, 0, "joking", k);
        }
        for (int k : new int[] {-1, -2, Integer.MIN_VALUE}) {
            Twins.refused(SignEdges::small, -4, "joking", k);
        }
        for (int k : new int[] {4, 5, 6, 7, Integer.MAX_VALUE}) {
            Twins.refused(SignEdges::small, -6, "joking", k);
        }
    }

    private static void noFact(String name, int... more) {
        for (int fact : new int[] {-1, 2, 3, 4, 32, Integer.MIN_VALUE, Integer.MAX_VALUE}) {
            int[] args = new int[1 + more.length];
            args[0] = fact;
            System.arraycopy(more, 0, args, 1, more.length);
            Twins.refused(SignEdges::small, -1, name, args);
        }
    }

    private static void promise19() {
        Doc.promises(19, "BEARS; -9. -1.");
        Twins.unchanged(SignEdges::small, -9, "bears", 0);
        Twins.unchanged(SignEdges::small, 6, "bears", 1);
        noFact("bears");
        Twins.refused(TrueOneWay::new, -1, "bears", 0);
    }

    private static void promise20() {
        Doc.promises(20, "FEWEST: how many (what 0; -9), which (1; -9). -1; -2.");
        Twins.unchanged(SignEdges::small, 1, "fewest", 0, 0);
        Twins.unchanged(SignEdges::small, 1, "fewest", 0, 1);
        Twins.unchanged(SignEdges::small, 0, "fewest", 1, 0);
        for (int what = 0; what < 2; what++) {
            Twins.unchanged(() -> Check.landOf("f;"), -9, "fewest", 0, what);
            noFact("fewest", what);
        }
        noFact("fewest", 2);
        noFact("fewest", -1);
        for (int what : new int[] {-1, 2, 3, Integer.MIN_VALUE, Integer.MAX_VALUE}) {
            Twins.refused(SignEdges::small, -2, "fewest", 0, what);
        }
    }

    private static void promise21() {
        Doc.promises(21, "TOGETHER (bits). -1 SIGNS that are not there.");
        int[] want = {2, 3, 2, 3};
        for (int signs = 0; signs < 4; signs++) {
            Twins.unchanged(SignEdges::small, want[signs], "together", signs);
        }
        for (int signs : new int[] {4, 5, 7, 8, 64, -1, -4, Integer.MIN_VALUE, Integer.MIN_VALUE + 1,
            Integer.MAX_VALUE}) {
            Twins.refused(SignEdges::small, -1, "together", signs);
        }
        for (int signs = 0; signs <= 6; signs++) {
            TrueOneWay x = alike(signs, 1);
            Check.due("all of " + signs, signs == 0 ? 0 : 1, x.together((1 << signs) - 1));
            Check.due("one more than " + signs, -1, x.together(1 << signs));
        }
    }
}
