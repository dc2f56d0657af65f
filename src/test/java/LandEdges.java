/** The edges of lands told in letters, sentence by sentence: what a land is, its faults, promises 1 to 6. */
final class LandEdges {
    private static final String KINDS = "fnaoxwj";
    private static final String ROADS = "r01;".repeat(8);
    private static final String FACTS = "f;".repeat(4);
    private static final String SIGNS = "s0j00;".repeat(6);
    /** All the room that there is, in 80 letters. */
    private static final String FULLEST = ROADS + FACTS + SIGNS + "l00;";

    private LandEdges() {
    }

    static void all() {
        mostLetters();
        endOfStatements();
        placesInRange();
        placesAtFirst();
        placesToldOf();
        roadsOfTwoDigits();
        mostRoads();
        roadsBetweenTheSame();
        mostFacts();
        signsInLetters();
        mostSigns();
        signsAsTheyCame();
        shownThere();
        shownAgain();
        innDigits();
        innFirstAndSecond();
        noStatement();
        faultOfForm();
        faultOfSense();
        outOfRange();
        notThereAhead();
        twoAlike();
        noRoom();
        farthestFaultOfSense();
        allOrNothing();
        promise1();
        promise2();
        promise3();
        promise4();
        promise5();
        promise6();
    }

    private static void terms(String quote) {
        Doc.says("Terms", quote);
    }

    private static void fault(String text, int want) {
        Check.due("land() of '" + text + "'", want, Check.tell(new TrueOneWay(), text));
    }

    private static void mostLetters() {
        terms("A LAND is told in letters, one by one (80 at most): STATEMENTS,");
        Check.due("letters of the fullest land", 80, FULLEST.length());
        TrueOneWay x = new TrueOneWay();
        for (int i = 0; i < 80; i++) {
            Check.due("letter " + i, i + 1, x.letter(FULLEST.charAt(i)));
        }
        Check.due("the 81st", -6, x.letter(';'));
        Check.due("count(8)", 80, x.count(8));
        Check.due("land() of 80 letters", 19, x.land());
        Check.due("count(8) then", 0, x.count(8));
        Check.due("80 letters more", 20, Check.tell(x, "l00;".repeat(20)));
    }

    private static void endOfStatements() {
        terms("each with \";\" behind:");
        fault("f", -1001);
        fault("f:", -1001);
        fault("ff;", -1001);
        fault("f;f", -1003);
        fault(";", -1000);
        fault("f;;", -1002);
        fault(";f;", -1000);
        fault("f;f;", 2);
    }

    private static void placesInRange() {
        terms("\"n\" PLACES (a digit, 2 .. 6;");
        for (int digit = 0; digit <= 9; digit++) {
            TrueOneWay x = new TrueOneWay();
            boolean inRange = digit >= 2 && digit <= 6;
            Check.due("n" + digit + ";", inRange ? 1 : -2000, Check.tell(x, "n" + digit + ";"));
            Check.due("places behind n" + digit + ";", inRange ? digit : 4, x.count(0));
        }
        fault("n/;", -1001);
        fault("n:;", -1001);
        fault("n06;", -1002);
    }

    private static void placesAtFirst() {
        terms("4 at first;");
        Check.due("count(0)", 4, new TrueOneWay().count(0));
        fault("r03;", 1);
        fault("r04;", -2000);
    }

    private static void placesToldOf() {
        terms("not fewer than are told of already);");
        for (int place = 2; place <= 5; place++) {
            String[] texts = {
                "n6;r0" + place + ";", "n6;r" + place + "0;", "n6;f;l" + place + "0;", "n6;f;i0" + place + "0;",
                "n6;f;i" + place + "00;",
            };
            String fewer = "n" + place + ";";
            String enough = "n" + (place + 1) + ";";
            for (String text : texts) {
                fault(text + fewer, -2000 - text.length());
                fault(text + enough, text.replaceAll("[^;]", "").length() + 1);
                TrueOneWay x = Check.landOf(text);
                Check.due(fewer + " in a land behind " + text, -2000, Check.tell(x, fewer));
                Check.due("places as before", 6, x.count(0));
                Check.due(enough + " in a land behind " + text, 1, Check.tell(x, enough));
                Check.due("no more than are told of", place + 1, x.count(0));
            }
        }
        fault("n6;n2;", 2);
        fault("n2;n6;", 2);
    }

    private static void roadsOfTwoDigits() {
        terms("\"r\" two digits (unlike PLACES): a ROAD more, from the first to the second");
        for (int places = 2; places <= 6; places += 2) {
            for (int first = 0; first <= 9; first++) {
                for (int second = 0; second <= 9; second++) {
                    TrueOneWay x = new TrueOneWay();
                    String text = "n" + places + ";r" + first + second + ";";
                    boolean can = first < places && second < places && first != second;
                    Check.due("land() of " + text, can ? 2 : -2003, Check.tell(x, text));
                    Check.due("roads behind " + text, can ? 1 : 0, x.count(1));
                    Check.due("the first of " + text, can ? first : -1, x.road(0, 0));
                    Check.due("the second of " + text, can ? second : -1, x.road(0, 1));
                }
            }
        }
        fault("r/1;", -1001);
        fault("r:1;", -1001);
        fault("r0/;", -1002);
        fault("r0:;", -1002);
    }

    private static void mostRoads() {
        terms("(8 at most;");
        fault(ROADS, 8);
        fault(ROADS + "r10;", -2032);
        TrueOneWay x = Check.landOf("r01;".repeat(7));
        Check.due("two more", -2004, Check.tell(x, "r12;r12;"));
        Check.due("the eighth", 1, Check.tell(x, "r32;"));
        Check.due("the ninth", -2000, Check.tell(x, "r32;"));
        Check.due("count(1)", 8, x.count(1));
        Check.due("road(7, 0)", 3, x.road(7, 0));
    }

    private static void roadsBetweenTheSame() {
        terms("more than one may be between two);");
        TrueOneWay x = Check.landOf("r01;r01;r10;");
        Check.due("count(1)", 3, x.count(1));
        Check.due("road(1, 0)", 0, x.road(1, 0));
        Check.due("road(2, 0)", 1, x.road(2, 0));
        Check.due("road(2, 1)", 0, x.road(2, 1));
    }

    private static void mostFacts() {
        terms("\"f\": a FACT more (4 at most);");
        fault(FACTS, 4);
        fault(FACTS + "f;", -2008);
        TrueOneWay x = Check.landOf("f;f;f;");
        Check.due("two more", -2002, Check.tell(x, "f;f;"));
        Check.due("count(2)", 3, x.count(2));
        Check.due("the fourth", 1, Check.tell(x, "f;"));
        Check.due("the fifth", -2000, Check.tell(x, "f;"));
        Check.due("count(2)", 4, x.count(2));
        Check.due("fact(3, 1)", 1, x.fact(3, 1));
    }

    private static void signsInLetters() {
        terms("\"s\" a ROAD (a digit), a letter of a KIND, A, B (digits): a SIGN more on it");
        for (int digit = 0; digit <= 9; digit++) {
            fault("s" + digit + "j00;", -2000);
            fault("r01;s" + digit + "j00;", digit == 0 ? 2 : -2004);
            fault(ROADS + "s" + digit + "j00;", digit < 8 ? 9 : -2032);
        }
        for (char letter = 0; letter <= 255; letter++) {
            boolean ofAKind = KINDS.indexOf(letter) >= 0;
            fault("r01;f;s0" + letter + "00;", ofAKind ? 3 : -1008);
        }
        for (char edge : new char[] {'/', ':', 'f', ';'}) {
            fault("r01;f;s" + edge + "f00;", -1007);
            fault("r01;f;s0f" + edge + "0;", -1009);
            fault("r01;f;s0f0" + edge + ";", -1010);
        }
        TrueOneWay x = Check.landOf("r01;r12;s1j90;");
        Check.due("road(0, 2)", 0, x.road(0, 2));
        Check.due("road(1, 2)", 1, x.road(1, 2));
    }

    private static void mostSigns() {
        terms("(6 at most;");
        fault("r01;" + SIGNS, 7);
        fault("r01;" + SIGNS + "s0j00;", -2040);
        TrueOneWay x = Check.landOf("r01;r12;" + "s0j00;".repeat(5));
        Check.due("two more", -2006, Check.tell(x, "s1j00;s1j00;"));
        Check.due("count(3)", 5, x.count(3));
        Check.due("the sixth", 1, Check.tell(x, "s1j00;"));
        Check.due("the seventh", -2000, Check.tell(x, "s1j00;"));
        Check.due("count(3)", 6, x.count(3));
        Check.due("sign(5, 1)", 1, x.sign(5, 1));
    }

    private static void rowIs(TrueOneWay x, int ends, int... signs) {
        for (int i = 0; i < signs.length; i++) {
            Check.due("row(" + signs[i] + ")", i + 1, x.row(signs[i]));
        }
        Check.due("book(1)", ends, x.book(1));
    }

    private static void signsAsTheyCame() {
        terms("a ROAD's SIGNS stand as they came, from its first PLACE on);");
        TrueOneWay x = Check.landOf("r20;r13;s0j00;s1j00;s0j00;", "s1j00;s0j00;");
        rowIs(x, 1, 0, 2, 4);
        rowIs(x, 4, 4, 2, 0);
        rowIs(x, 0, 2, 0, 4);
        rowIs(x, 0, 0, 4, 2);
        rowIs(x, 8, 1, 3);
        rowIs(x, 2, 3, 1);
    }

    private static void shownThere() {
        terms("\"l\" a PLACE, a FACT (digits): being there shows it");
        for (int place = 0; place <= 9; place++) {
            for (int fact = 0; fact <= 9; fact++) {
                String text = "n5;f;f;f;l" + place + fact + ";";
                TrueOneWay x = new TrueOneWay();
                boolean can = place < 5 && fact < 3;
                Check.due("land() of " + text, can ? 5 : -2009, Check.tell(x, text));
                for (int other = 0; other < x.count(0); other++) {
                    int want = can && other == place ? 1 << fact : 0;
                    Check.due("shown(" + other + ") behind " + text, want, x.shown(other));
                }
            }
        }
        fault("f;l/0;", -1003);
        fault("f;l:0;", -1003);
        fault("f;l0/;", -1004);
        fault("f;l0:;", -1004);
        // Who is there knows it: the inn is here or there, and he goes there or stays.
        TrueOneWay x = Check.landOf("f;r01;i100;l00;");
        Check.due("go(0, 0)", 1, x.go(0, 0));
    }

    private static void shownAgain() {
        terms("(told again: nothing more);");
        TrueOneWay x = Check.landOf("f;f;l31;l31;");
        Check.due("shown(3)", 2, x.shown(3));
        Check.due("land()", 2, Check.tell(x, "l31;l30;"));
        Check.due("shown(3)", 3, x.shown(3));
    }

    private static void innDigits() {
        terms("\"i\" two unlike PLACES and a FACT (digits):");
        for (int first = 0; first <= 9; first++) {
            for (int second = 0; second <= 9; second++) {
                for (int fact = 0; fact <= 9; fact++) {
                    String text = "n5;f;f;i" + first + second + fact + ";";
                    TrueOneWay x = new TrueOneWay();
                    boolean can = first < 5 && second < 5 && first != second && fact < 2;
                    Check.due("land() of " + text, can ? 4 : -2007, Check.tell(x, text));
                    Check.due("count(9) behind " + text, can ? 1 : 0, x.count(9));
                }
            }
        }
        for (char edge : new char[] {'/', ':'}) {
            fault("f;i" + edge + "10;", -1003);
            fault("f;i0" + edge + "0;", -1004);
            fault("f;i01" + edge + ";", -1005);
        }
    }

    private static void innFirstAndSecond() {
        terms("THE INN is at the first, if the FACT is so, else at the second.");
        for (int so = 0; so < 2; so++) {
            TrueOneWay x = Check.landOf("f;f;i231;");
            x.fact(1, so);
            Check.due("at the first", so == 1 ? 0 : -9, x.go(2, 0));
            Check.due("at the second", so == 1 ? -9 : 0, x.go(3, 0));
        }
    }

    private static void noStatement() {
        terms("At least one STATEMENT.");
        TrueOneWay x = new TrueOneWay();
        Check.due("land() of nothing", -1000, x.land());
        Check.due("land() of one", 1, Check.tell(x, "f;"));
        Check.due("land() of nothing, behind a land", -1000, x.land());
        Check.due("count(2)", 1, x.count(2));
    }

    /** Each form of a statement, broken off or spoilt at each of its letters. */
    private static void faultOfForm() {
        terms("FAULT: kind 1 the place of the first letter with which no LAND can go on (the end, if something lacks):"
                + " -1000 less the place;");
        String[] forms = {"n4;", "r12;", "f;", "s0f00;", "l00;", "i010;"};
        for (String ahead : new String[] {"", "r01;f;"}) {
            for (String form : forms) {
                for (int i = 0; i < form.length(); i++) {
                    String begun = ahead + form.substring(0, i);
                    if (i > 0) {
                        fault(begun, -1000 - begun.length());
                    }
                    for (char odd : new char[] {'?', 'z', 'N', ' ', 0, 127, 255}) {
                        fault(begun + odd, -1000 - begun.length());
                        fault(begun + odd + form.substring(i + 1), -1000 - begun.length());
                    }
                    if (form.charAt(i) != ';') {
                        fault(begun + ";", -1000 - begun.length());
                    }
                    if (form.charAt(i) == ';') {
                        fault(begun + "0;", -1000 - begun.length());
                    }
                }
                fault(ahead + form + "?", -1000 - ahead.length() - form.length());
            }
        }
        fault("n4;".repeat(26) + "n4", -1080);
        fault("n4;".repeat(26) + "n;", -1079);
        fault("n4;".repeat(26) + "?4", -1078);
        fault("?".repeat(80), -1000);
        // It is told ahead of a fault of kind 2, wherever the two are.
        fault("n9;r00;l99;f;?", -1013);
        fault("r00;n", -1005);
    }

    private static void faultOfSense() {
        terms("else kind 2 the place of the first letter of the first STATEMENT that, behind all ahead of it in the"
                + " text, is not as it must be");
        fault("n9;", -2000);
        fault("r01;n9;", -2004);
        fault("r01;n9;r00;", -2004);
        fault("r01;r00;n9;", -2004);
        fault("f;n4;r01;s0f00;l00;i010;n1;", -2024);
        fault("r04;n5;", -2000);
        fault("n5;r04;", 2);
        fault("l00;f;", -2000);
        fault("f;l00;", 2);
        fault("s0j00;r01;", -2000);
        fault("r01;s0j00;", 2);
        fault("i010;f;", -2000);
        fault("f;i010;", 2);
        fault("n3;r03;", -2003);
        fault("r03;n3;", -2004);
    }

    private static void outOfRange() {
        terms("(a number out of range,");
        for (int number : new int[] {0, 1, 7, 8, 9}) {
            fault("n" + number + ";", -2000);
            fault("f;n" + number + ";f;", -2002);
        }
        fault("n2;n6;", 2);
    }

    private static void notThereAhead() {
        terms("what is not there ahead of it (a SIGN may speak of itself),");
        fault("n3;r13;", -2003);
        fault("n3;r31;", -2003);
        fault("n3;r21;", 2);
        fault("r01;r12;s2j00;", -2008);
        fault("r01;r12;s1j00;", 3);
        fault("n3;f;l30;", -2005);
        fault("n3;f;l20;", 3);
        fault("n3;f;l21;", -2005);
        fault("n3;f;i310;", -2005);
        fault("n3;f;i130;", -2005);
        fault("n3;f;i121;", -2005);
        fault("n3;f;i120;", 3);
        for (char kind : new char[] {'f', 'n', 'a', 'o', 'x'}) {
            fault("r01;s0" + kind + "00;", -2004);
            fault("r01;f;s0" + kind + "10;", -2006);
            fault("r01;f;f;s0" + kind + "10;", 4);
            fault("r01;f;s0" + kind + "01;", kind == 'f' || kind == 'n' ? 3 : -2006);
            fault("r01;f;f;s0" + kind + "01;", 4);
        }
        for (int number = 0; number < 6; number++) {
            String ahead = "r01;" + "s0j00;".repeat(number);
            for (int a = 0; a <= 9; a++) {
                fault(ahead + "s0w" + a + "0;", a <= number ? number + 2 : -2000 - ahead.length());
            }
        }
    }

    private static void twoAlike() {
        terms("two alike,");
        for (int place = 0; place < 4; place++) {
            fault("f;r" + place + place + ";", -2002);
            fault("f;i" + place + place + "0;", -2002);
        }
    }

    private static void noRoom() {
        terms("no room):");
        fault(ROADS + "f;r12;f;", -2034);
        fault("f;r12;f;f;f;f;r01;", -2012);
        fault("r01;" + SIGNS + "f;s0j00;", -2042);
        // With all its room taken a land can still be told what needs none.
        TrueOneWay x = Check.landOf(FULLEST);
        Check.due("places, shown and an inn", 3, Check.tell(x, "n6;l53;i543;"));
        for (String text : new String[] {"r45;", "f;", "s7j00;"}) {
            Check.due(text + " without room", -2000, Check.tell(x, text));
        }
    }

    private static void farthestFaultOfSense() {
        terms("-2000 less the place.");
        String ahead = "n4;".repeat(22) + FACTS + "l00;";
        Check.due("letters ahead", 78, ahead.length());
        fault(ahead + "f;", -2078);
        fault(ahead, 27);
        fault("n1;", -2000);
    }

    private static void allOrNothing() {
        terms("Without FAULT all of it comes, with one nothing.");
        String more = "n5;r34;f;s1n10;l41;i431;";
        String[] faulty = {more + "n9;", more + "r44;", more + "?", more + "f", "f;" + more + "n2;"};
        int[] faults = {-2024, -2024, -1024, -1025, -2026};
        for (int i = 0; i < faulty.length; i++) {
            TrueOneWay untouched = Check.landOf("r01;f;s0f00;l00;i010;");
            TrueOneWay x = Check.landOf("r01;f;s0f00;l00;i010;");
            Check.due("land() of " + faulty[i], faults[i], Check.tell(x, faulty[i]));
            Twins.alike(faulty[i], untouched, x);
        }
        TrueOneWay x = Check.landOf("r01;f;s0f00;l00;i010;", more);
        int[] counts = {5, 2, 2, 2, 0, 4, 4, 0, 0, 1};
        for (int what = 0; what < counts.length; what++) {
            Check.due("count(" + what + ")", counts[what], x.count(what));
        }
        Check.due("road(1, 1)", 4, x.road(1, 1));
        Check.due("sign(1, 1)", 1, x.sign(1, 1));
        Check.due("shown(4)", 2, x.shown(4));
        x.fact(1, 1);
        Check.due("the inn is at 4", 0, x.go(4, 0));
    }

    private static void promise1() {
        Doc.promises(1, "Four PLACES, no ROADS.");
        TrueOneWay x = new TrueOneWay();
        int[] counts = {4, 0, 0, 0, 0, 1, 1, 0, 0, 0, -9, 0, 0, 0, 0, 0, 0};
        for (int what = 0; what < counts.length; what++) {
            Check.due("count(" + what + ")", counts[what], x.count(what));
        }
        Check.due("road(0, 0)", -1, x.road(0, 0));
        Check.due("sign(0, 0)", -1, x.sign(0, 0));
        Check.due("shown(3)", 0, x.shown(3));
        Check.due("shown(4)", -1, x.shown(4));
    }

    private static void promise2() {
        Doc.promises(2, "A letter (0 .. 255) comes: how many there are. -4; -6 (255; 80, too).");
        TrueOneWay x = new TrueOneWay();
        Check.due("letter(0)", 1, x.letter(0));
        Check.due("letter(255)", 2, x.letter(255));
        for (int low : new int[] {-1, -2, -256, Integer.MIN_VALUE}) {
            Twins.refused(TrueOneWay::new, -4, "letter", low);
        }
        for (int high : new int[] {256, 257, 65536 + 'f', Integer.MAX_VALUE}) {
            Twins.refused(TrueOneWay::new, -6, "letter", high);
        }
        for (int c : new int[] {0, 'f', 255, 256, Integer.MAX_VALUE}) {
            Twins.refused(() -> letters(80), -6, "letter", c);
        }
        Twins.refused(() -> letters(80), -4, "letter", -1);
        Check.due("the 80th", 80, letters(79).letter('0'));
    }

    private static TrueOneWay letters(int number) {
        TrueOneWay x = new TrueOneWay();
        for (int i = 0; i < number; i++) {
            Check.due("letter " + i, i + 1, x.letter(FULLEST.charAt(i)));
        }
        return x;
    }

    private static void promise3() {
        Doc.promises(3, "The letters become a LAND, and are no more (with a FAULT neither): how many STATEMENTS; the"
                + " FAULT (nothing is counted).");
        TrueOneWay x = new TrueOneWay();
        String[] texts = {"f;", "f;f;r01;", "f;f;", "f;f", "", "n6;"};
        int[] answers = {1, 3, -2002, -1003, -1000, 1};
        for (int i = 0; i < texts.length; i++) {
            Check.due("land() of '" + texts[i] + "'", answers[i], Check.tell(x, texts[i]));
            Check.due("letters behind '" + texts[i] + "'", 0, x.count(8));
            for (int what = 11; what <= 16; what++) {
                Check.due("count(" + what + ") behind '" + texts[i] + "'", 0, x.count(what));
            }
        }
        Check.due("count(2)", 3, x.count(2));
    }

    private static TrueOneWay some() {
        return Check.landOf("r01;r32;f;f;s1f17;l31;");
    }

    private static void promise4() {
        Doc.promises(4, "Of a ROAD: 0 its first PLACE, 1 the second, 2 SIGNS on it (bits). -1; -2.");
        int[][] want = {{0, 1, 0}, {3, 2, 1}};
        for (int road = 0; road < 2; road++) {
            for (int what = 0; what < 3; what++) {
                Twins.unchanged(LandEdges::some, want[road][what], "road", road, what);
            }
        }
        TrueOneWay x = Check.landOf(FULLEST);
        Check.due("all six signs on it", 63, x.road(0, 2));
        Check.due("none on the last", 0, x.road(7, 2));
        Check.due("no ninth road", -1, x.road(8, 2));
        for (int road : new int[] {-1, 2, 3, Integer.MIN_VALUE, Integer.MAX_VALUE}) {
            Twins.refused(LandEdges::some, -1, "road", road, 0);
            Twins.refused(LandEdges::some, -1, "road", road, 3);
        }
        for (int what : new int[] {-1, 3, Integer.MIN_VALUE, Integer.MAX_VALUE}) {
            Twins.refused(LandEdges::some, -2, "road", 1, what);
        }
        Twins.refused(TrueOneWay::new, -1, "road", 0, 0);
    }

    private static void promise5() {
        Doc.promises(5, "Of a SIGN: 0 KIND (0 f, 1 n, 2 a, 3 o, 4 x, 5 w, 6 j), 1 its ROAD, 2 A, 3 B. -1; -2.");
        for (int kind = 0; kind < KINDS.length(); kind++) {
            TrueOneWay x = Check.landOf("r01;r12;f;f;s1" + KINDS.charAt(kind) + "01;");
            int[] want = {kind, 1, 0, 1};
            for (int what = 0; what < 4; what++) {
                Check.due("sign(0, " + what + ") of " + KINDS.charAt(kind), want[what], x.sign(0, what));
            }
        }
        TrueOneWay full = Check.landOf(FULLEST);
        Check.due("the sixth sign", 6, full.sign(5, 0));
        Check.due("no seventh", -1, full.sign(6, 0));
        Twins.unchanged(LandEdges::some, 7, "sign", 0, 3);
        for (int sign : new int[] {-1, 1, 2, Integer.MIN_VALUE, Integer.MAX_VALUE}) {
            Twins.refused(LandEdges::some, -1, "sign", sign, 0);
            Twins.refused(LandEdges::some, -1, "sign", sign, 4);
        }
        for (int what : new int[] {-1, 4, Integer.MIN_VALUE, Integer.MAX_VALUE}) {
            Twins.refused(LandEdges::some, -2, "sign", 0, what);
        }
        Twins.refused(TrueOneWay::new, -1, "sign", 0, 0);
    }

    private static void promise6() {
        Doc.promises(6, "FACTS shown at a PLACE (bits). -1.");
        Twins.unchanged(LandEdges::some, 2, "shown", 3);
        Twins.unchanged(LandEdges::some, 0, "shown", 0);
        TrueOneWay x = Check.landOf("n6;f;f;f;f;l50;l51;l52;l53;");
        Check.due("all four at the last place", 15, x.shown(5));
        Check.due("no seventh place", -1, x.shown(6));
        for (int place : new int[] {-1, 4, 5, Integer.MIN_VALUE, Integer.MAX_VALUE}) {
            Twins.refused(LandEdges::some, -1, "shown", place);
        }
    }
}
