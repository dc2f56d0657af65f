/** Promises 17 to 21: rings, joking, bears, fewest, together. */
public final class SignTest {
    public static void main(String[] args) {
        rings();
        joking();
        bears();
        fewest();
        together();
        Check.end("SignTest");
    }

    private static void rings() {
        Check.due("no signs", 0, new TrueOneWay().rings());
        // A sign can speak of itself or of one ahead of it, so only what speaks of itself is a ring.
        Check.due("of itself", 2, Check.landOf("r01;f;s0f00;s0w10;s0w10;s0w20;").rings());
        Check.due("two of themselves", 5, Check.landOf("r01;s0w00;s0w00;s0w20;").rings());
        Check.due("a joker speaks of nothing", 0, Check.landOf("r01;s0j00;s0w00;s0j20;").rings());
        Check.due("a plain one speaks of facts", 0, Check.landOf("r01;f;f;s0f00;s0n10;s0a01;s0w00;").rings());
        Check.due("six of themselves", 63, Check.landOf("r01;s0w00;s0w10;s0w20;s0w30;s0w40;s0w50;").rings());
    }

    private static void joking() {
        TrueOneWay x = Check.landOf("r01;f;f;s0f00;s0f00;s0n00;s0f10;");
        x.way(0, 1);
        x.way(1, 1);
        x.way(2, 0);
        x.way(3, 1);
        int[] want = {3, 1, 1, 0};
        for (int k = 0; k < want.length; k++) {
            Check.due("joking(" + k + ")", want[k], x.joking(k));
        }
        x.fact(1, 1);
        Check.due("what is found stays sure", 2, x.joking(3));
        Check.due("joking(-1)", -4, x.joking(-1));
        Check.due("joking(4)", -6, x.joking(4));
        Check.due("count(14)", 1, x.count(14));
        Check.due("count(16)", 1, x.count(16));
        // With a joker among them a world is that was none.
        x = Check.landOf("r01;f;f;s0f00;s0n00;");
        x.way(0, 1);
        x.way(1, 1);
        x.fact(0, 1);
        Check.due("none is good: all", 3, x.joking(0));
        Check.due("one joker", 1, x.joking(1));
        // The least and the greatest world are looked at, too.
        x = Check.landOf("r01;f;f;s0f00;s0f10;");
        x.way(0, 1);
        x.way(1, 1);
        Check.due("all is so", 3, x.joking(0));
        Check.due("all but one", 0, x.joking(1));
        // Signs that are jokers already are not counted.
        x = Check.landOf("r01;f;s0j00;s0j00;s0f00;");
        x.way(2, 1);
        Check.due("jokers already", 1, x.joking(0));
        Check.due("one joker more", 0, x.joking(1));
    }

    private static void bears() {
        TrueOneWay x = Check.landOf("r01;f;f;f;s0f00;s0f00;s0n00;s0f10;");
        Check.due("open", -9, x.bears(0));
        x.way(0, 1);
        x.way(1, 1);
        x.way(2, 0);
        x.way(3, 0);
        Check.due("three say so", 2, x.bears(0));
        Check.due("one says not", 0, x.bears(1));
        Check.due("none says", -9, x.bears(2));
        x.fact(2, 0);
        Check.due("found", 6, x.bears(2));
        Check.due("bears(3)", -1, x.bears(3));
        Check.due("bears(-1)", -1, x.bears(-1));
        x = Check.landOf("r01;f;s0f00;s0f00;s0f00;s0f00;s0f00;s0f00;");
        for (int sign = 0; sign < 6; sign++) {
            x.way(sign, 0);
        }
        Check.due("six say not", 5, x.bears(0));
        x.way(0, 1);
        Check.due("it can not be by any", 6, x.bears(0));
        // None is good, but with one joker both can be.
        x = Check.landOf("r01;f;s0f00;s0n00;");
        x.way(0, 1);
        x.way(1, 1);
        Check.due("alike in none, unlike with one", 0, x.bears(0));
    }

    private static void fewestIs(TrueOneWay x, int fact, int number, int signs) {
        Check.due("fewest(" + fact + ", 0)", number, x.fewest(fact, 0));
        Check.due("fewest(" + fact + ", 1)", signs, x.fewest(fact, 1));
    }

    private static void fewest() {
        TrueOneWay x = Check.landOf("r01;f;f;f;f;s0x01;s0n20;s0x12;s0f20;");
        fewestIs(x, 0, 3, 7);
        fewestIs(x, 1, 2, 6);
        fewestIs(x, 2, 1, 2);
        fewestIs(x, 3, -9, -9);
        x.fact(3, 1);
        fewestIs(x, 3, 0, 0);
        x.fact(2, 0);
        fewestIs(x, 1, 1, 4);
        fewestIs(x, 0, 2, 5);
        Check.due("fewest(4, 0)", -1, x.fewest(4, 0));
        Check.due("fewest(-1, 0)", -1, x.fewest(-1, 0));
        Check.due("fewest(4, 2), both wrong", -1, x.fewest(4, 2));
        Check.due("fewest(0, 2)", -2, x.fewest(0, 2));
        Check.due("fewest(0, -1)", -2, x.fewest(0, -1));
        // Four would tell, three do not.
        x = Check.landOf("r01;f;f;f;f;s0x01;s0x12;s0x23;s0f30;");
        fewestIs(x, 0, -9, -9);
        fewestIs(x, 1, 3, 14);
        // A joker's way tells nothing.
        fewestIs(Check.landOf("r01;f;s0j00;"), 0, -9, -9);
    }

    private static void together() {
        TrueOneWay x = Check.landOf("r01;f;f;f;s0x01;s0n20;s0x12;s0j00;");
        int[] want = {0, 0, 4, 4, 0, 0, 6, 7};
        for (int signs = 0; signs < 16; signs++) {
            Check.due("together(" + signs + ")", want[signs % 8], x.together(signs));
        }
        x.fact(0, 0);
        Check.due("together(0), first found", 1, x.together(0));
        Check.due("together(1), first found", 3, x.together(1));
        Check.due("together(16)", -1, x.together(16));
        Check.due("together(17)", -1, x.together(17));
        Check.due("together(-1)", -1, x.together(-1));
        Check.due("together(least int)", -1, x.together(Integer.MIN_VALUE));
        Check.due("count(11)", 4, x.count(11));
    }
}
