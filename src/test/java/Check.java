/** What the tests share: telling a land in letters, comparing answers, ending with exit code 1 if one was wrong. */
final class Check {
    private static int wrong = 0;
    private static int made = 0;
    private static String now = "";

    private Check() {
    }

    /** What is looked at from here on, told with each wrong answer. */
    static void now(String what) {
        now = "[" + what + "] ";
    }

    static int made() {
        return made;
    }

    static void due(String call, int want, int got) {
        made++;
        if (got != want) {
            wrong++;
            System.out.println(now + call + " answered " + got + ", due is " + want);
        }
    }

    static void isTrue(String what, boolean holds) {
        due(what, 1, holds ? 1 : 0);
    }

    /** The letters of the text come, and land() is called. */
    static int tell(TrueOneWay x, String text) {
        for (int i = 0; i < text.length(); i++) {
            due("letter " + i + " of " + text, i + 1, x.letter(text.charAt(i)));
        }
        return x.land();
    }

    /** A new object with these texts told, each of which must be without a fault. */
    static TrueOneWay landOf(String... texts) {
        TrueOneWay x = new TrueOneWay();
        for (String text : texts) {
            int statements = text.length() - text.replace(";", "").length();
            due("land() of " + text, statements, tell(x, text));
        }
        return x;
    }

    static void end(String name) {
        System.out.println(name + ": " + made + " answers looked at, " + wrong + " wrong");
        if (wrong > 0 || made == 0) {
            System.exit(1);
        }
    }
}
