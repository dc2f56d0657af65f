/** Promises 1 to 6: a new object, letter, land, road, sign, shown. */
public final class LandTest {
    public static void main(String[] args) {
        newObject();
        letters();
        faultsOfForm();
        faultsOfSense();
        placesNotFewerThanTold();
        roomForAll();
        landsAddUp();
        withAFaultNothingComes();
        roads();
        signs();
        shownFacts();
        Check.end("LandTest");
    }

    private static void newObject() {
        TrueOneWay x = new TrueOneWay();
        int[] counts = {4, 0, 0, 0, 0, 1, 1, 0, 0, 0};
        for (int what = 0; what < counts.length; what++) {
            Check.due("new: count(" + what + ")", counts[what], x.count(what));
        }
        for (int what = 11; what <= 16; what++) {
            Check.due("new: count(" + what + ")", 0, x.count(what));
        }
    }

    private static void letters() {
        TrueOneWay x = new TrueOneWay();
        Check.due("letter(-1)", -4, x.letter(-1));
        Check.due("letter(least int)", -4, x.letter(Integer.MIN_VALUE));
        Check.due("letter(256)", -6, x.letter(256));
        Check.due("letter(0)", 1, x.letter(0));
        Check.due("letter(255)", 2, x.letter(255));
        Check.due("count(8)", 2, x.count(8));
        for (int i = 3; i <= 80; i++) {
            Check.due("letter " + i, i, x.letter('f'));
        }
        Check.due("letter 81", -6, x.letter('f'));
        Check.due("letter(-1) with no room", -4, x.letter(-1));
        Check.due("count(8) when full", 80, x.count(8));
        Check.due("count(14)", 3, x.count(14));
        Check.due("count(16)", 2, x.count(16));
        Check.due("land()", -1000, x.land());
        Check.due("letters are no more with a fault", 0, x.count(8));
        Check.due("letter after land", 1, x.letter('f'));
    }

    private static void fault(String text, int want) {
        Check.due("land() of '" + text + "'", want, Check.tell(new TrueOneWay(), text));
    }

    private static void faultsOfForm() {
        fault("", -1000);
        fault(";", -1000);
        fault("N4;", -1000);
        fault("n", -1001);
        fault("n;", -1001);
        fault("nx;", -1001);
        fault("n4", -1002);
        fault("n44;", -1002);
        fault("r", -1001);
        fault("r0", -1002);
        fault("r0x;", -1002);
        fault("r01", -1003);
        fault("r012;", -1003);
        fault("f", -1001);
        fault("f0;", -1001);
        fault("s", -1001);
        fault("sf00;", -1001);
        fault("s0", -1002);
        fault("s0k00;", -1002);
        fault("s0F00;", -1002);
        fault("s0f", -1003);
        fault("s0f;", -1003);
        fault("s0f0;", -1004);
        fault("s0f00", -1005);
        fault("s0f000;", -1005);
        fault("l0;", -1002);
        fault("l00", -1003);
        fault("i01;", -1003);
        fault("i010", -1004);
        fault("i0100;", -1004);
        fault("f;;", -1002);
        fault("f; f;", -1002);
        fault("f;f", -1003);
        fault("n4/", -1002);
        fault("n:;", -1001);
        fault("n/;", -1001);
        // A fault of form is told first, wherever it is.
        fault("n9;r00;f;q", -1009);
        fault("n9;r0", -1005);
        fault("n4;".repeat(26) + "n4", -1080);
    }

    private static void faultsOfSense() {
        fault("n0;", -2000);
        fault("n1;", -2000);
        fault("n2;", 1);
        fault("n6;", 1);
        fault("n7;", -2000);
        fault("n9;", -2000);
        fault("r01;", 1);
        fault("r10;", 1);
        fault("r00;", -2000);
        fault("r04;", -2000);
        fault("r40;", -2000);
        fault("n5;r04;", 2);
        fault("r01;r01;r10;", 3);
        fault("f;f;f;f;f;", -2008);
        fault("f;f;f;f;", 4);
        fault("r01;s0f00;", -2004);
        fault("f;s0f00;", -2002);
        fault("r01;f;s0f00;s1f00;", -2012);
        fault("r01;f;s0f09;s0n09;", 4);
        fault("r01;f;s0f10;", -2006);
        fault("r01;f;s0n10;", -2006);
        fault("r01;f;f;s0a01;s0o10;s0x01;", 6);
        fault("r01;f;s0a00;s0o00;s0x00;", 5);
        for (String kind : new String[] {"a", "o", "x"}) {
            fault("r01;f;s0" + kind + "01;", -2006);
            fault("r01;f;s0" + kind + "10;", -2006);
        }
        fault("r01;s0w09;", 2);
        fault("r01;s0w10;", -2004);
        fault("r01;s0j99;s0w10;s0w00;s0w40;", -2022);
        fault("r01;s0j99;", 2);
        fault("s0j99;", -2000);
        fault("l00;", -2000);
        fault("f;l00;l00;", 3);
        fault("f;l01;", -2002);
        fault("f;l40;", -2002);
        fault("f;l30;", 2);
        fault("i010;", -2000);
        fault("f;i010;", 2);
        fault("f;i000;", -2002);
        fault("f;i040;", -2002);
        fault("f;i400;", -2002);
        fault("f;i011;", -2002);
        // Only what stands ahead counts.
        fault("r04;n5;", -2000);
        fault("s0j00;r01;", -2000);
        fault("l00;f;", -2000);
        fault("f;r00;l09;", -2002);
    }

    private static void placesNotFewerThanTold() {
        fault("r02;n2;", -2004);
        fault("r20;n2;", -2004);
        fault("r02;n3;", 2);
        fault("f;l20;n2;", -2006);
        fault("f;l20;n3;", 3);
        fault("f;i300;n3;", -2007);
        fault("f;i030;n3;", -2007);
        fault("f;i030;n4;", 3);
        fault("n6;n2;", 2);
        TrueOneWay x = Check.landOf("n6;r05;");
        Check.due("n5 behind r05", -2000, Check.tell(x, "n5;"));
        Check.due("count(0)", 6, x.count(0));
        // An inn that is told again is where it was told last, and the former places are told of no more.
        x = Check.landOf("n6;f;i450;i010;n2;r01;");
        Check.due("inn told again", 1, x.count(9));
        Check.due("go(1, 0)", -9, x.go(1, 0));
        Check.due("fact(0, 0)", 1, x.fact(0, 0));
        Check.due("go(1, 0), at the second", 0, x.go(1, 0));
    }

    private static void roomForAll() {
        fault("r01;r01;r01;r01;r01;r01;r01;r01;", 8);
        fault("r01;r01;r01;r01;r01;r01;r01;r01;r01;", -2032);
        fault("r01;s0j00;s0j00;s0j00;s0j00;s0j00;s0j00;", 7);
        fault("r01;s0j00;s0j00;s0j00;s0j00;s0j00;s0j00;s0j00;", -2040);
    }

    private static void landsAddUp() {
        TrueOneWay x = Check.landOf("r01;f;", "s0f00;f;", "s0w10;l11;", "i121;");
        int[] counts = {4, 1, 2, 2, 0, 4, 4, 0, 0, 1};
        // s0w10 speaks of itself: either way of it fits.
        counts[5] = 8;
        counts[6] = 8;
        for (int what = 0; what < counts.length; what++) {
            Check.due("lands add up: count(" + what + ")", counts[what], x.count(what));
        }
    }

    private static void withAFaultNothingComes() {
        TrueOneWay x = Check.landOf("r01;f;s0f00;");
        Check.due("fact(0, 1)", 1, x.fact(0, 1));
        Check.due("land() with a fault of sense", -2027, Check.tell(x, "n5;r12;f;l00;s0f00;i010;n6;r66;"));
        Check.due("land() with a fault of form", -1027, Check.tell(x, "n5;r12;f;l00;s0f00;i010;n6;?"));
        int[] counts = {4, 1, 1, 1, 1, 2, 1, 0, 0, 0};
        for (int what = 0; what < counts.length; what++) {
            Check.due("with a fault nothing comes: count(" + what + ")", counts[what], x.count(what));
        }
        for (int what = 11; what <= 16; what++) {
            Check.due("faults are no refusals: count(" + what + ")", 0, x.count(what));
        }
        Check.due("shown(0)", 0, x.shown(0));
        // Nothing of the faulty texts is there for the next one either.
        Check.due("land() behind faults", -2000, Check.tell(x, "l01;"));
        Check.due("land() behind faults", 3, Check.tell(x, "r12;f;l01;"));
        Check.due("count(1)", 2, x.count(1));
        Check.due("count(3)", 1, x.count(3));
    }

    private static void roads() {
        TrueOneWay x = Check.landOf("r01;r32;r20;s1j00;s0j00;s1j00;s1j00;");
        int[][] want = {{0, 1, 2}, {3, 2, 13}, {2, 0, 0}};
        for (int road = 0; road < want.length; road++) {
            for (int what = 0; what < 3; what++) {
                Check.due("road(" + road + ", " + what + ")", want[road][what], x.road(road, what));
            }
        }
        Check.due("road(3, 0)", -1, x.road(3, 0));
        Check.due("road(-1, 0)", -1, x.road(-1, 0));
        Check.due("road(3, 9), both wrong", -1, x.road(3, 9));
        Check.due("road(0, 3)", -2, x.road(0, 3));
        Check.due("road(0, -1)", -2, x.road(0, -1));
        Check.due("count(11)", 3, x.count(11));
        Check.due("count(12)", 2, x.count(12));
    }

    private static void signs() {
        TrueOneWay x = Check.landOf("r01;r12;f;f;s1f07;s0n19;s1a01;s0o10;", "s1x11;s0w38;");
        int[][] want = {{0, 1, 0, 7}, {1, 0, 1, 9}, {2, 1, 0, 1}, {3, 0, 1, 0}, {4, 1, 1, 1}, {5, 0, 3, 8}};
        for (int sign = 0; sign < want.length; sign++) {
            for (int what = 0; what < 4; what++) {
                Check.due("sign(" + sign + ", " + what + ")", want[sign][what], x.sign(sign, what));
            }
        }
        Check.due("sign(6, 0)", -1, x.sign(6, 0));
        Check.due("sign(-1, 0)", -1, x.sign(-1, 0));
        Check.due("sign(6, 4), both wrong", -1, x.sign(6, 4));
        Check.due("sign(0, 4)", -2, x.sign(0, 4));
        Check.due("sign(0, -1)", -2, x.sign(0, -1));
        x = Check.landOf("r01;s0j38;");
        Check.due("a joker's kind", 6, x.sign(0, 0));
        Check.due("a joker's A", 3, x.sign(0, 2));
        Check.due("a joker's B", 8, x.sign(0, 3));
    }

    private static void shownFacts() {
        TrueOneWay x = Check.landOf("f;f;f;l00;l02;l02;l31;");
        int[] want = {5, 0, 0, 2};
        for (int place = 0; place < want.length; place++) {
            Check.due("shown(" + place + ")", want[place], x.shown(place));
        }
        Check.due("shown(4)", -1, x.shown(4));
        Check.due("shown(-1)", -1, x.shown(-1));
        Check.due("land()", 1, Check.tell(x, "n5;"));
        Check.due("shown(4) of five", 0, x.shown(4));
    }
}
