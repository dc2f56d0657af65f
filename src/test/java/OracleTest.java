import java.util.Random;

/** All promises: runs of calls by fixed seeds, each answer compared with that of the plain Oracle. */
public final class OracleTest {
    private static final int RUNS = 1500;
    /** What begins below this ends below 512, as nothing is promised of later calls. */
    private static final int CALLS = 440;

    private final Random random;
    private final TrueOneWay x = new TrueOneWay();
    private final Oracle o = new Oracle();
    private final String run;
    private int calls = 0;

    private OracleTest(int seed) {
        random = new Random(seed);
        run = "run " + seed + ": ";
    }

    public static void main(String[] args) {
        for (int seed = 0; seed < RUNS; seed++) {
            new OracleTest(seed).play();
        }
        Check.end("OracleTest");
    }

    private void play() {
        boolean rich = random.nextInt(3) > 0;
        if (rich) {
            tell(richLand());
            tell(richMore());
        }
        while (calls < CALLS) {
            if (random.nextInt(60) == 0) {
                tell(random.nextInt(4) == 0 ? litter() : statements(1 + random.nextInt(6)));
            } else if (random.nextInt(25) == 0) {
                readRow();
            } else {
                call(random.nextInt(28));
            }
        }
    }

    private int upTo(int n) {
        return random.nextInt(n);
    }

    private char digit(int n) {
        return (char) ('0' + random.nextInt(Math.max(1, n)));
    }

    /** Mostly a number that is there, now and then one at the edge or far off. */
    private int some(int n) {
        int die = random.nextInt(20);
        if (die == 0) {
            return n;
        }
        if (die == 1) {
            return -1;
        }
        if (die == 2) {
            int[] far = {Integer.MIN_VALUE, Integer.MAX_VALUE, 1 << 16, -7, n + 1};
            return far[random.nextInt(far.length)];
        }
        return random.nextInt(Math.max(1, n));
    }

    private int someWorld() {
        int die = random.nextInt(12);
        if (die == 0) {
            return some(1024);
        }
        int good = o.worlds(-1);
        if (die < 7 && good > 0) {
            return o.worlds(random.nextInt(good));
        }
        int facts = random.nextInt(1 << o.count(2));
        int signs = random.nextInt(1 << o.count(3));
        return facts + 16 * signs;
    }

    private void due(String call, int want, int got) {
        calls++;
        Check.due(run + call, want, got);
    }

    private void tell(String text) {
        for (int i = 0; i < text.length(); i++) {
            due("letter(" + text.charAt(i) + ")", o.letter(text.charAt(i)), x.letter(text.charAt(i)));
        }
        due("land() of " + text, o.land(), x.land());
        for (int what = 0; what < 10; what++) {
            due("count(" + what + ")", o.count(what), x.count(what));
        }
    }

    private String richLand() {
        StringBuilder text = new StringBuilder();
        int places = 2 + upTo(5);
        text.append('n').append(places).append(';');
        int roads = 1 + upTo(8);
        for (int i = 0; i < roads; i++) {
            int a = upTo(places);
            int b = (a + 1 + upTo(places - 1)) % places;
            text.append('r').append(a).append(b).append(';');
        }
        int facts = 1 + upTo(4);
        for (int i = 0; i < facts; i++) {
            text.append("f;");
        }
        for (int i = 0; i < 6 && text.length() + 6 <= 80; i++) {
            text.append('s').append(upTo(roads));
            char kind = "fnaoxwj".charAt(upTo(7));
            int a = kind == 'w' ? upTo(i + 1) : upTo(facts);
            text.append(kind).append(a).append(upTo(facts)).append(';');
        }
        return text.toString();
    }

    private String richMore() {
        StringBuilder text = new StringBuilder();
        int places = o.count(0);
        int facts = Math.max(1, o.count(2));
        int a = upTo(places);
        int b = (a + 1 + upTo(places - 1)) % places;
        text.append('i').append(a).append(b).append(upTo(facts)).append(';');
        int shows = upTo(6);
        for (int i = 0; i < shows; i++) {
            text.append('l').append(upTo(places)).append(upTo(facts)).append(';');
        }
        return text.toString();
    }

    private String statements(int number) {
        StringBuilder text = new StringBuilder();
        for (int i = 0; i < number; i++) {
            int die = random.nextInt(12);
            if (die == 0) {
                text.append('n').append(digit(8));
            } else if (die < 4) {
                text.append('r').append(digit(6)).append(digit(6));
            } else if (die < 5) {
                text.append('f');
            } else if (die < 8) {
                text.append('s').append(digit(o.count(1) + 1)).append("fnaoxwj".charAt(upTo(7)));
                text.append(digit(o.count(2) + 1)).append(digit(o.count(2) + 1));
            } else if (die < 10) {
                text.append('l').append(digit(o.count(0) + 1)).append(digit(o.count(2) + 1));
            } else {
                text.append('i').append(digit(o.count(0))).append(digit(o.count(0))).append(digit(o.count(2)));
            }
            text.append(';');
        }
        return text.toString();
    }

    /** A text with a letter put in, left out or changed. */
    private String litter() {
        StringBuilder text = new StringBuilder(statements(1 + upTo(4)));
        int at = upTo(text.length());
        String signs = "nrfsliaoxwj;0123456789 /:" + (char) 0 + (char) 255;
        switch (upTo(3)) {
            case 0:
                text.deleteCharAt(at);
                break;
            case 1:
                text.insert(at, signs.charAt(upTo(signs.length())));
                break;
            default:
                text.setCharAt(at, signs.charAt(upTo(signs.length())));
        }
        return text.toString();
    }

    /** A row that was likely read on roads: all signs of some, one way or the other. */
    private void readRow() {
        int roads = o.count(1);
        if (roads == 0) {
            return;
        }
        int place = upTo(o.count(0));
        for (int i = 0; i < 5; i++) {
            int road = upTo(roads);
            boolean there = o.road(road, 0) == place || o.road(road, 1) == place;
            if (!there && upTo(8) > 0) {
                continue;
            }
            boolean forward = o.road(road, 0) == place;
            place = o.road(road, forward ? 1 : 0);
            for (int j = 0; j < 6; j++) {
                int sign = forward ? j : 5 - j;
                if ((o.road(road, 2) >> sign & 1) == 1) {
                    due("row(" + sign + ")", o.row(sign), x.row(sign));
                }
            }
        }
        int what = upTo(2);
        due("book(" + what + ")", o.book(what), x.book(what));
    }

    private void call(int which) {
        switch (which) {
            case 0: { int a = some(o.count(1)), b = some(3); due("road " + a + " " + b, o.road(a, b), x.road(a, b)); break; }
            case 1: { int a = some(o.count(3)), b = some(4); due("sign " + a + " " + b, o.sign(a, b), x.sign(a, b)); break; }
            case 2: { int a = some(o.count(0)); due("shown " + a, o.shown(a), x.shown(a)); break; }
            case 3: { int a = someWorld(); due("fits " + a, o.fits(a), x.fits(a)); break; }
            case 4: { int a = someWorld(); due("good " + a, o.good(a), x.good(a)); break; }
            case 5: { int a = some(o.count(3)), b = someWorld(); due("says " + a + " " + b, o.says(a, b), x.says(a, b)); break; }
            case 6: { int a = some(o.count(6)); due("worlds " + a, o.worlds(a), x.worlds(a)); break; }
            case 7: { int a = some(o.count(2)), b = some(2); due("fact " + a + " " + b, o.fact(a, b), x.fact(a, b)); break; }
            case 8: { int a = some(o.count(3)), b = some(2); due("way " + a + " " + b, o.way(a, b), x.way(a, b)); break; }
            case 9: due("forget", o.forget(), x.forget()); break;
            case 10: { int a = some(6); due("sure " + a, o.sure(a), x.sure(a)); break; }
            case 11: due("proof", o.proof(), x.proof()); break;
            case 12: { int a = some(o.count(3)), b = some(2); due("tells " + a + " " + b, o.tells(a, b), x.tells(a, b)); break; }
            case 13: due("rings", o.rings(), x.rings()); break;
            case 14: { int a = some(4); due("joking " + a, o.joking(a), x.joking(a)); break; }
            case 15: { int a = some(o.count(2)); due("bears " + a, o.bears(a), x.bears(a)); break; }
            case 16: { int a = some(o.count(2)), b = some(2); due("fewest " + a + " " + b, o.fewest(a, b), x.fewest(a, b)); break; }
            case 17: { int a = some(1 << o.count(3)); due("together " + a, o.together(a), x.together(a)); break; }
            case 18: case 19: { int a = some(o.count(0)), b = some(2); due("go " + a + " " + b, o.go(a, b), x.go(a, b)); break; }
            case 20: { int a = some(o.count(3)); due("row " + a, o.row(a), x.row(a)); break; }
            case 21: { int a = some(2); due("book " + a, o.book(a), x.book(a)); break; }
            case 22: due("next", o.next(), x.next()); break;
            case 23: { int a = 1 + some(30), b = random.nextInt(), c = some(2); due("lands " + a + " " + b + " " + c, o.lands(a, b, c), x.lands(a, b, c)); break; }
            case 24: { int a = someWorld(); due("judge " + a, o.judge(a), x.judge(a)); break; }
            case 25: due("image", o.image(), x.image()); break;
            case 26: due("on", o.on(), x.on()); break;
            default: { int a = some(18); due("count " + a, o.count(a), x.count(a)); break; }
        }
    }
}
