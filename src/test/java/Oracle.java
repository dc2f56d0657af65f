import java.util.ArrayList;
import java.util.HashMap;
import java.util.List;
import java.util.Map;
import java.util.function.Predicate;
import java.util.regex.Matcher;
import java.util.regex.Pattern;

/** The document's words once more, as plainly as they can be put and without any thought for speed. */
final class Oracle {
    private static final Pattern STATEMENT =
            Pattern.compile("\\G(n\\d;|r\\d\\d;|f;|s\\d[fnaoxwj]\\d\\d;|l\\d\\d;|i\\d\\d\\d;)");
    private static final Pattern[] BEGUN = {
        Pattern.compile("n(\\d;?)?"), Pattern.compile("r(\\d(\\d;?)?)?"), Pattern.compile("f;?"),
        Pattern.compile("s(\\d([fnaoxwj](\\d(\\d;?)?)?)?)?"), Pattern.compile("l(\\d(\\d;?)?)?"),
        Pattern.compile("i(\\d(\\d(\\d;?)?)?)?"),
    };

    /** All that is told and found; a copy is an image. */
    private static final class State {
        int places = 4;
        final List<int[]> roads = new ArrayList<>();
        int facts = 0;
        /** Of each sign: road, kind, A, B. */
        final List<int[]> signs = new ArrayList<>();
        final List<int[]> shows = new ArrayList<>();
        int[] inn = null;
        /** Of each found thing: 0 a fact or 1 a sign, which, is. */
        final List<int[]> found = new ArrayList<>();

        State copy() {
            State s = new State();
            s.places = places;
            s.roads.addAll(roads);
            s.facts = facts;
            s.signs.addAll(signs);
            s.shows.addAll(shows);
            s.inn = inn;
            s.found.addAll(found);
            return s;
        }
    }

    private State state = new State();
    private State kept = null;
    private final StringBuilder letters = new StringBuilder();
    private final List<Integer> row = new ArrayList<>();
    private final int[] refused = new int[7];

    private int refuse(int number) {
        refused[-number]++;
        return number;
    }

    int letter(int c) {
        if (c < 0) {
            return refuse(-4);
        }
        if (c > 255 || letters.length() == 80) {
            return refuse(-6);
        }
        letters.append((char) c);
        return letters.length();
    }

    int land() {
        String text = letters.toString();
        letters.setLength(0);
        List<String> statements = new ArrayList<>();
        Matcher m = STATEMENT.matcher(text);
        int end = 0;
        while (m.find()) {
            statements.add(m.group());
            end = m.end();
        }
        if (end < text.length() || text.isEmpty()) {
            return -1000 - (end + longestBegun(text.substring(end)));
        }
        State next = state.copy();
        int place = 0;
        for (String statement : statements) {
            if (!take(next, statement)) {
                return -2000 - place;
            }
            place += statement.length();
        }
        state = next;
        return statements.size();
    }

    private static int longestBegun(String rest) {
        int longest = 0;
        for (int n = 1; n <= rest.length(); n++) {
            for (Pattern p : BEGUN) {
                if (p.matcher(rest.substring(0, n)).matches()) {
                    longest = n;
                }
            }
        }
        return longest;
    }

    private static boolean take(State s, String text) {
        int[] d = new int[text.length()];
        for (int i = 0; i < d.length; i++) {
            d[i] = text.charAt(i) - '0';
        }
        switch (text.charAt(0)) {
            case 'n':
                int told = 0;
                for (int[] road : s.roads) {
                    told = Math.max(told, Math.max(road[0], road[1]) + 1);
                }
                for (int[] show : s.shows) {
                    told = Math.max(told, show[0] + 1);
                }
                if (s.inn != null) {
                    told = Math.max(told, Math.max(s.inn[0], s.inn[1]) + 1);
                }
                if (d[1] < 2 || d[1] > 6 || d[1] < told) {
                    return false;
                }
                s.places = d[1];
                return true;
            case 'r':
                return d[1] < s.places && d[2] < s.places && d[1] != d[2] && s.roads.size() < 8
                        && s.roads.add(new int[] {d[1], d[2]});
            case 'f':
                s.facts++;
                return s.facts <= 4;
            case 's':
                int kind = "fnaoxwj".indexOf(text.charAt(2));
                boolean speaks = kind == 6 || (kind == 5 ? d[3] <= s.signs.size()
                        : d[3] < s.facts && (kind < 2 || d[4] < s.facts));
                return d[1] < s.roads.size() && s.signs.size() < 6 && speaks
                        && s.signs.add(new int[] {d[1], kind, d[3], d[4]});
            case 'l':
                return d[1] < s.places && d[2] < s.facts && s.shows.add(new int[] {d[1], d[2]});
            default:
                if (d[1] >= s.places || d[2] >= s.places || d[1] == d[2] || d[3] >= s.facts) {
                    return false;
                }
                s.inn = new int[] {d[1], d[2], d[3]};
                return true;
        }
    }

    private boolean noPlace(int place) {
        return place < 0 || place >= state.places;
    }

    private boolean noFact(int fact) {
        return fact < 0 || fact >= state.facts;
    }

    private boolean noSign(int sign) {
        return sign < 0 || sign >= state.signs.size();
    }

    private boolean noWorld(int world) {
        if (world < 0) {
            return true;
        }
        for (int bit = 0; bit < 31; bit++) {
            boolean there = bit < 4 ? bit < state.facts : bit - 4 < state.signs.size();
            if (isSo(world, bit) && !there) {
                return true;
            }
        }
        return false;
    }

    private static boolean isSo(int bits, int bit) {
        return (bits & 1 << bit) != 0;
    }

    private static boolean forward(int world, int sign) {
        return isSo(world, 4 + sign);
    }

    private static boolean notTwo(int what) {
        return what < 0 || what > 1;
    }

    int road(int road, int what) {
        if (road < 0 || road >= state.roads.size()) {
            return refuse(-1);
        }
        if (what < 0 || what > 2) {
            return refuse(-2);
        }
        if (what < 2) {
            return state.roads.get(road)[what];
        }
        int bits = 0;
        for (int sign : signsOf(road)) {
            bits += 1 << sign;
        }
        return bits;
    }

    private List<Integer> signsOf(int road) {
        List<Integer> list = new ArrayList<>();
        for (int sign = 0; sign < state.signs.size(); sign++) {
            if (state.signs.get(sign)[0] == road) {
                list.add(sign);
            }
        }
        return list;
    }

    int sign(int sign, int what) {
        if (noSign(sign)) {
            return refuse(-1);
        }
        if (what < 0 || what > 3) {
            return refuse(-2);
        }
        return state.signs.get(sign)[what == 0 ? 1 : what == 1 ? 0 : what];
    }

    int shown(int place) {
        if (noPlace(place)) {
            return refuse(-1);
        }
        return shownBits(place);
    }

    private int shownBits(int place) {
        int bits = 0;
        for (int[] show : state.shows) {
            if (show[0] == place) {
                bits |= 1 << show[1];
            }
        }
        return bits;
    }

    private boolean saidSo(int sign, int world) {
        int[] s = state.signs.get(sign);
        switch (s[1]) {
            case 0:
                return isSo(world, s[2]);
            case 1:
                return !isSo(world, s[2]);
            case 2:
                return isSo(world, s[2]) && isSo(world, s[3]);
            case 3:
                return isSo(world, s[2]) || isSo(world, s[3]);
            case 4:
                return isSo(world, s[2]) ^ isSo(world, s[3]);
            case 5:
                return forward(world, s[2]);
            default:
                return false;
        }
    }

    private boolean signFits(int sign, int world) {
        return state.signs.get(sign)[1] == 6 || forward(world, sign) == saidSo(sign, world);
    }

    /** Whether the world fits if these signs (bits) were jokers, too. */
    private boolean fitsWith(int jokers, int world) {
        for (int sign = 0; sign < state.signs.size(); sign++) {
            if (!isSo(jokers, sign) && !signFits(sign, world)) {
                return false;
            }
        }
        return true;
    }

    private boolean isKept(int thing, int world) {
        int[] f = state.found.get(thing);
        boolean so = f[0] == 0 ? isSo(world, f[1]) : forward(world, f[1]);
        return so == (f[2] == 1);
    }

    private boolean allFound(int world) {
        for (int i = 0; i < state.found.size(); i++) {
            if (!isKept(i, world)) {
                return false;
            }
        }
        return true;
    }

    private List<Integer> those(Predicate<Integer> which) {
        List<Integer> list = new ArrayList<>();
        for (int world = 0; world < 1024; world++) {
            if (!noWorld(world) && which.test(world)) {
                list.add(world);
            }
        }
        return list;
    }

    private List<Integer> fitting() {
        return those(w -> fitsWith(0, w));
    }

    private List<Integer> goodOnes() {
        return those(w -> fitsWith(0, w) && allFound(w));
    }

    int fits(int world) {
        return noWorld(world) ? refuse(-1) : fitting().contains(world) ? 1 : 0;
    }

    int good(int world) {
        return noWorld(world) ? refuse(-1) : goodOnes().contains(world) ? 1 : 0;
    }

    int says(int sign, int world) {
        return noSign(sign) || noWorld(world) ? refuse(-1) : saidSo(sign, world) ? 1 : 0;
    }

    int worlds(int i) {
        if (i < -1) {
            return refuse(-4);
        }
        List<Integer> list = goodOnes();
        return i == -1 ? list.size() : i < list.size() ? list.get(i) : -9;
    }

    int fact(int fact, int is) {
        return noFact(fact) ? refuse(-1) : find(0, fact, is);
    }

    int way(int sign, int is) {
        return noSign(sign) ? refuse(-1) : find(1, sign, is);
    }

    private int find(int kind, int which, int is) {
        if (notTwo(is)) {
            return refuse(-2);
        }
        if (state.found.size() == 12) {
            return refuse(-6);
        }
        state.found.add(new int[] {kind, which, is});
        return state.found.size();
    }

    int forget() {
        if (state.found.isEmpty()) {
            return refuse(-3);
        }
        state.found.remove(state.found.size() - 1);
        return state.found.size();
    }

    /** 0 sure, 1 surely not, 2 open, of the bits first .. first + number - 1. */
    private static int certain(List<Integer> list, int first, int number, int what) {
        int bits = 0;
        for (int i = 0; i < number; i++) {
            int bit = first + i;
            boolean sure = list.stream().allMatch(w -> isSo(w, bit));
            boolean not = list.stream().noneMatch(w -> isSo(w, bit));
            if (what == 0 ? sure : what == 1 ? not : !sure && !not) {
                bits += 1 << i;
            }
        }
        return bits;
    }

    int sure(int what) {
        if (what < 0 || what > 5) {
            return refuse(-2);
        }
        return what < 3 ? certain(goodOnes(), 0, state.facts, what)
                : certain(goodOnes(), 4, state.signs.size(), what - 3);
    }

    int proof() {
        if (!goodOnes().isEmpty()) {
            return 0;
        }
        List<Integer> fitting = fitting();
        int n = state.found.size();
        for (int size = 0; size <= n; size++) {
            for (int set = 0; set < 1 << n; set++) {
                if (Integer.bitCount(set) == size && canNotBe(fitting, set)) {
                    return set;
                }
            }
        }
        return 0;
    }

    private boolean canNotBe(List<Integer> fitting, int set) {
        for (int world : fitting) {
            boolean all = true;
            for (int i = 0; i < state.found.size() && all; i++) {
                all = !isSo(set, i) || isKept(i, world);
            }
            if (all) {
                return false;
            }
        }
        return true;
    }

    int tells(int sign, int is) {
        if (noSign(sign)) {
            return refuse(-1);
        }
        if (notTwo(is)) {
            return refuse(-2);
        }
        List<Integer> then = those(w -> fitsWith(0, w) && allFound(w) && forward(w, sign) == (is == 1));
        return certain(goodOnes(), 0, state.facts, 2) & ~certain(then, 0, state.facts, 2);
    }

    int rings() {
        int n = state.signs.size();
        boolean[][] reaches = new boolean[n][n];
        for (int i = 0; i < n; i++) {
            if (state.signs.get(i)[1] == 5) {
                reaches[i][state.signs.get(i)[2]] = true;
            }
        }
        for (int k = 0; k < n; k++) {
            for (int i = 0; i < n; i++) {
                for (int j = 0; j < n; j++) {
                    reaches[i][j] |= reaches[i][k] && reaches[k][j];
                }
            }
        }
        int bits = 0;
        for (int i = 0; i < n; i++) {
            bits += reaches[i][i] ? 1 << i : 0;
        }
        return bits;
    }

    private List<Integer> withJokers(int most) {
        return those(w -> {
            for (int jokers = 0; jokers < 1 << state.signs.size(); jokers++) {
                if (Integer.bitCount(jokers) <= most && fitsWith(jokers, w) && allFound(w)) {
                    return true;
                }
            }
            return false;
        });
    }

    int joking(int k) {
        return k < 0 ? refuse(-4) : k > 3 ? refuse(-6) : certain(withJokers(k), 0, state.facts, 0);
    }

    int bears(int fact) {
        if (noFact(fact)) {
            return refuse(-1);
        }
        for (int k = 6; k >= 0; k--) {
            if (!isSo(certain(withJokers(k), 0, state.facts, 2), fact)) {
                return k;
            }
        }
        return -9;
    }

    private boolean alike(List<Integer> list, int fact, int signs) {
        for (int one : list) {
            for (int other : list) {
                if ((one >> 4 & signs) == (other >> 4 & signs) && isSo(one, fact) != isSo(other, fact)) {
                    return false;
                }
            }
        }
        return true;
    }

    int fewest(int fact, int what) {
        if (noFact(fact)) {
            return refuse(-1);
        }
        if (notTwo(what)) {
            return refuse(-2);
        }
        List<Integer> list = goodOnes();
        for (int size = 0; size <= 3; size++) {
            for (int signs = 0; signs < 1 << state.signs.size(); signs++) {
                if (Integer.bitCount(signs) == size && alike(list, fact, signs)) {
                    return what == 0 ? size : signs;
                }
            }
        }
        return -9;
    }

    int together(int signs) {
        if (signs < 0 || signs >= 1 << state.signs.size()) {
            return refuse(-1);
        }
        int bits = 0;
        for (int fact = 0; fact < state.facts; fact++) {
            bits += alike(goodOnes(), fact, signs) ? 1 << fact : 0;
        }
        return bits;
    }

    /** Whether one who comes to the place and holds these worlds possible gets to the inn by so many roads. */
    private boolean gets(int place, List<Integer> can, int roads, Map<String, Boolean> known) {
        String key = place + " " + roads + " " + can;
        Boolean before = known.get(key);
        if (before != null) {
            return before;
        }
        boolean all = true;
        for (int world : can) {
            List<Integer> like = likeIn(place, can, world);
            all &= isAtInn(place, like) || roads > 0 && !goals(place, like, roads, known).isEmpty();
        }
        known.put(key, all);
        return all;
    }

    private List<Integer> likeIn(int place, List<Integer> can, int world) {
        int seen = shownBits(place);
        List<Integer> like = new ArrayList<>();
        for (int other : can) {
            if ((other & seen) == (world & seen)) {
                like.add(other);
            }
        }
        return like;
    }

    private boolean isAtInn(int place, List<Integer> can) {
        return can.stream().allMatch(w -> (isSo(w, state.inn[2]) ? state.inn[0] : state.inn[1]) == place);
    }

    /** The places to which one can go on from here so that so many roads will do. */
    private List<Integer> goals(int place, List<Integer> like, int roads, Map<String, Boolean> known) {
        List<Integer> list = new ArrayList<>();
        for (int goal = 0; goal < state.places; goal++) {
            boolean road = false;
            for (int[] r : state.roads) {
                road |= r[0] == place && r[1] == goal || r[1] == place && r[0] == goal;
            }
            if (road && gets(goal, like, roads - 1, known)) {
                list.add(goal);
            }
        }
        return list;
    }

    int go(int place, int what) {
        if (noPlace(place)) {
            return refuse(-1);
        }
        if (notTwo(what)) {
            return refuse(-2);
        }
        if (state.inn == null) {
            return refuse(-3);
        }
        // Only the facts of a world can be shown.
        List<Integer> can = new ArrayList<>();
        for (int world : goodOnes()) {
            if (!can.contains(world & 15)) {
                can.add(world & 15);
            }
        }
        Map<String, Boolean> known = new HashMap<>();
        int least = 0;
        while (least <= 20 && !gets(place, can, least, known)) {
            least++;
        }
        if (what == 0) {
            return least <= 20 ? least : -9;
        }
        if (least > 20 || can.isEmpty()) {
            return -9;
        }
        List<Integer> like = likeIn(place, can, goodOnes().get(0) & 15);
        if (isAtInn(place, like)) {
            return -9;
        }
        for (int roads = 1; roads <= 20; roads++) {
            List<Integer> list = goals(place, like, roads, known);
            if (!list.isEmpty()) {
                return list.get(0);
            }
        }
        return -9;
    }

    int row(int sign) {
        if (noSign(sign)) {
            return refuse(-1);
        }
        if (row.size() == 10) {
            return refuse(-6);
        }
        row.add(sign);
        return row.size();
    }

    private void walk(int place, List<Integer> read, List<Integer> ends) {
        if (read.size() >= row.size()) {
            if (read.equals(row)) {
                ends.add(place);
            }
            return;
        }
        if (!read.equals(row.subList(0, read.size()))) {
            return;
        }
        for (int road = 0; road < state.roads.size(); road++) {
            int[] r = state.roads.get(road);
            List<Integer> signs = signsOf(road);
            if (signs.isEmpty() || r[0] != place && r[1] != place) {
                continue;
            }
            List<Integer> more = new ArrayList<>(read);
            for (int i = 0; i < signs.size(); i++) {
                more.add(signs.get(r[0] == place ? i : signs.size() - 1 - i));
            }
            walk(r[0] == place ? r[1] : r[0], more, ends);
        }
    }

    int book(int what) {
        if (notTwo(what)) {
            return refuse(-2);
        }
        if (row.isEmpty()) {
            return refuse(-3);
        }
        List<Integer> ends = new ArrayList<>();
        for (int place = 0; place < state.places; place++) {
            walk(place, new ArrayList<>(), ends);
        }
        row.clear();
        int bits = 0;
        for (int end : ends) {
            bits |= 1 << end;
        }
        return what == 0 ? ends.size() : bits;
    }

    int next() {
        List<Integer> list = goodOnes();
        int open = certain(list, 0, state.facts, 2);
        int best = -9;
        int least = Integer.MAX_VALUE;
        for (int place = 0; place < state.places; place++) {
            for (int fact = 0; fact < state.facts; fact++) {
                if (isSo(shownBits(place) & open, fact)) {
                    int bit = fact;
                    int so = (int) list.stream().filter(w -> isSo(w, bit)).count();
                    int greater = Math.max(so, list.size() - so);
                    if (greater < least) {
                        least = greater;
                        best = place;
                    }
                }
            }
        }
        return best;
    }

    int lands(int n, int z, int what) {
        if (n < 1) {
            return refuse(-4);
        }
        if (n > 30) {
            return refuse(-6);
        }
        if (notTwo(what)) {
            return refuse(-2);
        }
        List<Integer> list = what == 0 ? fitting() : goodOnes();
        int there = 0;
        for (int bit = 0; bit < 10; bit++) {
            there += noWorld(1 << bit) ? 0 : 1 << bit;
        }
        int seed = z;
        int hits = 0;
        for (int i = 0; i < n; i++) {
            seed = (int) (seed * 1664525L + 1013904223L);
            hits += list.contains(((seed & 0x7fffffff) >> 8) % 1024 & there) ? 1 : 0;
        }
        return hits;
    }

    int judge(int world) {
        if (noWorld(world)) {
            return refuse(-1);
        }
        for (int i = 0; i < state.found.size(); i++) {
            if (!isKept(i, world)) {
                return i;
            }
        }
        for (int sign = 0; sign < state.signs.size(); sign++) {
            if (!signFits(sign, world)) {
                return 100 + sign;
            }
        }
        return -9;
    }

    int image() {
        kept = state.copy();
        return state.found.size();
    }

    int on() {
        if (kept == null) {
            return refuse(-3);
        }
        state = kept.copy();
        row.clear();
        return state.found.size();
    }

    int count(int what) {
        switch (what) {
            case 0:
                return state.places;
            case 1:
                return state.roads.size();
            case 2:
                return state.facts;
            case 3:
                return state.signs.size();
            case 4:
                return state.found.size();
            case 5:
                return fitting().size();
            case 6:
                return goodOnes().size();
            case 7:
                return row.size();
            case 8:
                return letters.length();
            case 9:
                return state.inn == null ? 0 : 1;
            default:
                return what >= 11 && what <= 16 ? refused[what - 10] : -9;
        }
    }
}
