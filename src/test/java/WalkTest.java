/** Promises 22 to 25: go, row, book, next. */
public final class WalkTest {
    public static void main(String[] args) {
        goRefuses();
        goKnowing();
        goByWhatIsShown();
        goAfterLookingElsewhere();
        goInPartOnly();
        goNoneGood();
        rows();
        books();
        booksOfManyRoads();
        nextPlaces();
        Check.end("WalkTest");
    }

    private static void goIs(TrueOneWay x, String when, int place, int roads, int first) {
        Check.due(when + ": go(" + place + ", 0)", roads, x.go(place, 0));
        Check.due(when + ": go(" + place + ", 1)", first, x.go(place, 1));
    }

    private static void goRefuses() {
        TrueOneWay x = Check.landOf("f;r01;");
        Check.due("go(4, 0)", -1, x.go(4, 0));
        Check.due("go(-1, 0)", -1, x.go(-1, 0));
        Check.due("go(4, 2), all wrong", -1, x.go(4, 2));
        Check.due("go(0, 2), two wrong", -2, x.go(0, 2));
        Check.due("go(0, -1), two wrong", -2, x.go(0, -1));
        Check.due("go(0, 0), no inn", -3, x.go(0, 0));
        Check.due("count(13)", 1, x.count(13));
        Check.due("land()", 1, Check.tell(x, "i010;"));
        Check.due("go(0, 2)", -2, x.go(0, 2));
        Check.due("go(0, 0), it is not shown", -9, x.go(0, 0));
        Check.due("go(0, 1), it is not shown", -9, x.go(0, 1));
    }

    private static void goKnowing() {
        TrueOneWay x = Check.landOf("n6;f;r01;r21;r23;r34;i400;");
        x.fact(0, 1);
        int[] roads = {4, 3, 2, 1, 0, -9};
        int[] first = {1, 2, 3, 4, -9, -9};
        for (int place = 0; place < 6; place++) {
            goIs(x, "inn at 4", place, roads[place], first[place]);
        }
        x.forget();
        x.fact(0, 0);
        goIs(x, "inn at 0", 4, 4, 3);
        goIs(x, "inn at 0", 0, 0, -9);
        Check.due("land()", 1, Check.tell(x, "r40;"));
        goIs(x, "a road more", 4, 1, 0);
        goIs(x, "a road more", 2, 2, 1);
    }

    private static void goByWhatIsShown() {
        // The inn is at 1 or 3; the fact is shown at 0.
        TrueOneWay x = Check.landOf("f;r01;r02;r23;l00;i130;");
        goIs(x, "shown at 0", 0, 2, 2);
        goIs(x, "shown at 0", 1, 3, 0);
        goIs(x, "shown at 0", 2, 3, 0);
        goIs(x, "shown at 0", 3, 4, 2);
        // In the first good world the fact is not so: the inn is where one looks.
        x = Check.landOf("f;r01;l00;i100;");
        goIs(x, "inn at 1 or here", 0, 1, -9);
        goIs(x, "inn at 1 or 0", 1, 2, 0);
        // A shorter branch is gone by its own shortest way, though there would be time for another.
        x = Check.landOf("n5;f;r20;r01;r21;r13;r34;l20;i410;");
        goIs(x, "the shortest of its branch", 2, 3, 1);
    }

    private static void goAfterLookingElsewhere() {
        // Facts 0 and 1 are alike (the sign is not forward), so each place that shows one of them does.
        TrueOneWay x = Check.landOf("n6;f;f;r01;s0x01;r12;r03;r34;r45;l21;l50;i130;");
        goIs(x, "not known alike", 0, 7, 3);
        x.way(0, 0);
        goIs(x, "alike", 0, 5, 1);
        // The second fact alone does not tell which the first is.
        x = Check.landOf("n6;f;f;r01;r02;l10;l21;i340;r03;r04;");
        goIs(x, "only fact 0 matters", 0, 3, 1);
        x = Check.landOf("n6;f;f;f;r01;s0x01;r02;l11;l22;i340;r03;r04;s0x21;");
        goIs(x, "fact 0 is shown nowhere", 0, -9, -9);
        x.way(0, 1);
        goIs(x, "fact 0 is not fact 1", 0, 3, 1);
        x.way(1, 0);
        goIs(x, "fact 1 is fact 2", 0, 3, 1);
        goIs(x, "fact 1 is fact 2", 2, 2, 0);
        // Of two places as near the least.
        x = Check.landOf("f;r03;r02;r31;r21;i120;l00;");
        x.fact(0, 1);
        goIs(x, "2 is ahead of 3", 0, 2, 2);
    }

    private static void goInPartOnly() {
        // From 0 one sees the fact; 1 can be reached, 3 not.
        TrueOneWay x = Check.landOf("f;r01;l00;i310;");
        goIs(x, "not in any case", 0, -9, -9);
        x.fact(0, 0);
        goIs(x, "in this case", 0, 1, 1);
    }

    private static void goNoneGood() {
        TrueOneWay x = Check.landOf("f;i010;");
        x.fact(0, 1);
        x.fact(0, 0);
        for (int place = 0; place < 4; place++) {
            goIs(x, "none good", place, 0, -9);
        }
        // In all good worlds the inn is there, though the fact is not shown.
        x = Check.landOf("f;r01;s0f00;i010;");
        x.way(0, 1);
        goIs(x, "known by a sign", 0, 0, -9);
        goIs(x, "known by a sign", 1, 1, 0);
    }

    private static void rows() {
        TrueOneWay x = Check.landOf("r01;r12;s0j00;s1j00;");
        Check.due("row(2)", -1, x.row(2));
        Check.due("row(-1)", -1, x.row(-1));
        for (int i = 1; i <= 10; i++) {
            Check.due("row(0)", i, x.row(0));
        }
        Check.due("row(2) without room", -1, x.row(2));
        Check.due("row(0) without room", -6, x.row(0));
        Check.due("count(7)", 10, x.count(7));
        Check.due("book(2)", -2, x.book(2));
        Check.due("book(-1)", -2, x.book(-1));
        Check.due("it stays", 10, x.count(7));
        Check.due("book(0)", 2, x.book(0));
        Check.due("it has none then", 0, x.count(7));
        Check.due("book(2), both wrong", -2, x.book(2));
        Check.due("book(0)", -3, x.book(0));
        Check.due("count(12)", 3, x.count(12));
        Check.due("count(13)", 1, x.count(13));
    }

    private static void bookIs(TrueOneWay x, int walks, int ends, int... signs) {
        StringBuilder name = new StringBuilder("row");
        for (int what = 0; what < 2; what++) {
            for (int i = 0; i < signs.length; i++) {
                name.append(' ').append(signs[i]);
                Check.due(name.toString(), i + 1, x.row(signs[i]));
            }
            Check.due(name + ": book(" + what + ")", what == 0 ? walks : ends, x.book(what));
            Check.due(name + ": count(7)", 0, x.count(7));
        }
    }

    private static void books() {
        // Signs 0 and 2 stand on road 0, sign 1 on road 1, none on road 2.
        TrueOneWay x = Check.landOf("r01;r12;r20;s0j00;s1j00;s0j00;");
        bookIs(x, 1, 2, 0, 2);
        bookIs(x, 1, 1, 2, 0);
        bookIs(x, 0, 0, 0);
        bookIs(x, 0, 0, 2);
        bookIs(x, 2, 6, 1);
        bookIs(x, 1, 4, 0, 2, 1);
        bookIs(x, 0, 0, 2, 0, 1);
        bookIs(x, 1, 1, 1, 2, 0);
        bookIs(x, 0, 0, 1, 0, 2);
        bookIs(x, 1, 1, 0, 2, 2, 0);
        bookIs(x, 0, 0, 0, 2, 0, 2);
        bookIs(x, 0, 0, 0, 1, 2);
        bookIs(x, 2, 6, 1, 1);
        bookIs(x, 0, 0, 1, 0);
        bookIs(x, 1, 2, 1, 2, 0, 0, 2);
    }

    private static void booksOfManyRoads() {
        // Two roads between the same places, a sign on each.
        TrueOneWay x = Check.landOf("r01;r10;r23;s0j00;s1j00;s2j00;");
        bookIs(x, 2, 3, 0, 1);
        bookIs(x, 2, 3, 0, 0, 1, 1, 0, 1, 0, 1, 0, 1);
        bookIs(x, 0, 0, 0, 2);
        bookIs(x, 2, 12, 2, 2, 2);
        // A sign more on a road: the row is looked at when the book is.
        Check.due("row(0)", 1, x.row(0));
        Check.due("land()", 1, Check.tell(x, "s0j00;"));
        Check.due("the row stays", 1, x.count(7));
        Check.due("book(0)", 0, x.book(0));
        bookIs(x, 1, 2, 0, 3);
    }

    private static void nextPlaces() {
        Check.due("nothing is there", -9, new TrueOneWay().next());
        TrueOneWay x = Check.landOf("r01;f;f;f;s0o01;l32;l20;l01;");
        Check.due("all alike: the least place", 0, x.next());
        x.way(0, 1);
        Check.due("by the third, half and half", 3, x.next());
        x.fact(2, 1);
        Check.due("the first two alike", 0, x.next());
        x.fact(1, 0);
        Check.due("nothing is open", -9, x.next());
        x.forget();
        x.fact(1, 1);
        Check.due("one is open", 2, x.next());
        x = Check.landOf("r01;f;f;f;s0a01;l00;l01;l12;l10;");
        x.way(0, 0);
        Check.due("of a place the best fact counts", 1, x.next());
        Check.due("shown nowhere", -9, Check.landOf("f;").next());
        x = Check.landOf("f;f;l00;l11;");
        x.fact(0, 1);
        Check.due("what is sure is not looked for", 1, x.next());
    }
}
