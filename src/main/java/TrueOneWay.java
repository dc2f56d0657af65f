/**
 * Signs on roads that are true to who passes them one way and false to who passes them the other.
 * The numbered promises of the document say what each public call answers.
 */
public final class TrueOneWay {
    private static final int MOST_LETTERS = 80;
    private static final int GREATEST_LETTER = 255;
    private static final int MOST_PLACES = 6;
    private static final int MOST_ROADS = 8;
    private static final int MOST_FACTS = 4;
    private static final int MOST_SIGNS = 6;
    private static final int MOST_FOUND = 12;
    private static final int MOST_READ = 10;
    private static final int MOST_WORLDS = 1024;
    private static final int MOST_STEPS = 20;
    private static final int MOST_JOKERS = 3;
    private static final int MOST_NEEDED = 3;
    private static final int MOST_DRAWS = 30;

    private static final int FACT_SETS = 16;
    private static final int FACT_BITS = 15;

    private static final int PLAIN = 0;
    private static final int NOT = 1;
    private static final int AND = 2;
    private static final int OR = 3;
    private static final int EITHER = 4;
    private static final int WAY = 5;
    private static final int JOKER = 6;

    private static final int NOBODY = -1;
    private static final int OTHER = -2;
    private static final int STATE = -3;
    private static final int BELOW = -4;
    private static final int ROOM = -6;
    private static final int NONE = -9;

    private static final int FAULT_OF_FORM = -1000;
    private static final int FAULT_OF_SENSE = -2000;

    private final Text text = new Text();
    private final Land told = new Land();
    private final Land draft = new Land();
    private final Land keptLand = new Land();
    private final Finds found = new Finds();
    private final Finds keptFound = new Finds();
    private final Worlds all = new Worlds();
    private final Clashes clashes = new Clashes();
    private final Wayfarer wayfarer = new Wayfarer();
    private final Reading reading = new Reading();
    private final int[] refusals = new int[7];
    private boolean imageTaken = false;

    public TrueOneWay() {
        all.reckon(told);
        all.sift(found);
    }

    public int letter(int c) {
        if (c < 0) {
            return refuse(BELOW);
        }
        if (c > GREATEST_LETTER || text.size >= MOST_LETTERS) {
            return refuse(ROOM);
        }
        text.add(c);
        return text.size;
    }

    public int land() {
        int answer = readText();
        text.clear();
        return answer;
    }

    public int road(int road, int what) {
        if (!told.hasRoad(road)) {
            return refuse(NOBODY);
        }
        switch (what) {
            case 0:
                return told.roadFirst[road];
            case 1:
                return told.roadSecond[road];
            case 2:
                return told.signsOn(road);
            default:
                return refuse(OTHER);
        }
    }

    public int sign(int sign, int what) {
        if (!told.hasSign(sign)) {
            return refuse(NOBODY);
        }
        switch (what) {
            case 0:
                return told.kind[sign];
            case 1:
                return told.standsOn[sign];
            case 2:
                return told.partA[sign];
            case 3:
                return told.partB[sign];
            default:
                return refuse(OTHER);
        }
    }

    public int shown(int place) {
        if (!told.hasPlace(place)) {
            return refuse(NOBODY);
        }
        return told.shownAt[place];
    }

    public int fits(int world) {
        if (!all.has(world)) {
            return refuse(NOBODY);
        }
        return all.isFitting(world) ? 1 : 0;
    }

    public int good(int world) {
        if (!all.has(world)) {
            return refuse(NOBODY);
        }
        return all.isGood(world) ? 1 : 0;
    }

    public int says(int sign, int world) {
        if (!told.hasSign(sign) || !all.has(world)) {
            return refuse(NOBODY);
        }
        return told.isSaidSo(sign, world) ? 1 : 0;
    }

    public int worlds(int i) {
        if (i < -1) {
            return refuse(BELOW);
        }
        if (i == -1) {
            return all.goodCount;
        }
        return i < all.goodCount ? all.goodOnes[i] : NONE;
    }

    public int fact(int fact, int is) {
        if (!told.hasFact(fact)) {
            return refuse(NOBODY);
        }
        return find(fact, is);
    }

    public int way(int sign, int is) {
        if (!told.hasSign(sign)) {
            return refuse(NOBODY);
        }
        return find(MOST_FACTS + sign, is);
    }

    public int forget() {
        if (found.size == 0) {
            return refuse(STATE);
        }
        found.dropLatest();
        all.sift(found);
        return found.size;
    }

    public int sure(int what) {
        int always = all.alwaysSo(0, 0);
        int ever = all.everSo(0, 0);
        int never = all.mask & ~ever;
        int open = ever & ~always;
        switch (what) {
            case 0:
                return always & FACT_BITS;
            case 1:
                return never & FACT_BITS;
            case 2:
                return open & FACT_BITS;
            case 3:
                return always >> MOST_FACTS;
            case 4:
                return never >> MOST_FACTS;
            case 5:
                return open >> MOST_FACTS;
            default:
                return refuse(OTHER);
        }
    }

    public int proof() {
        return all.goodCount > 0 ? 0 : clashes.fewestClashing(all, found);
    }

    public int tells(int sign, int is) {
        if (!told.hasSign(sign)) {
            return refuse(NOBODY);
        }
        if (is != 0 && is != 1) {
            return refuse(OTHER);
        }
        int bit = 1 << (MOST_FACTS + sign);
        int openNow = all.openFacts(0, 0);
        int openThen = is == 1 ? all.openFacts(bit, 0) : all.openFacts(0, bit);
        return openNow & ~openThen;
    }

    public int rings() {
        int bits = 0;
        for (int sign = 0; sign < told.signCount; sign++) {
            if (told.comesBack(sign)) {
                bits |= 1 << sign;
            }
        }
        return bits;
    }

    public int joking(int k) {
        if (k < 0) {
            return refuse(BELOW);
        }
        if (k > MOST_JOKERS) {
            return refuse(ROOM);
        }
        return all.sureWithJokers(k);
    }

    public int bears(int fact) {
        if (!told.hasFact(fact)) {
            return refuse(NOBODY);
        }
        int so = all.leastMisfits(fact, true);
        int not = all.leastMisfits(fact, false);
        int firstUnlike = Math.max(so, not);
        return firstUnlike == 0 ? NONE : Math.min(firstUnlike - 1, MOST_SIGNS);
    }

    public int fewest(int fact, int what) {
        if (!told.hasFact(fact)) {
            return refuse(NOBODY);
        }
        if (what != 0 && what != 1) {
            return refuse(OTHER);
        }
        int signs = all.fewestTelling(fact, told.signMask());
        if (signs == NONE) {
            return NONE;
        }
        return what == 0 ? Integer.bitCount(signs) : signs;
    }

    public int together(int signs) {
        if (signs < 0 || (signs & ~told.signMask()) != 0) {
            return refuse(NOBODY);
        }
        int bits = 0;
        for (int fact = 0; fact < told.factCount; fact++) {
            if (all.isAlikeBy(fact, signs)) {
                bits |= 1 << fact;
            }
        }
        return bits;
    }

    public int go(int place, int what) {
        if (!told.hasPlace(place)) {
            return refuse(NOBODY);
        }
        if (what != 0 && what != 1) {
            return refuse(OTHER);
        }
        if (!told.hasInn()) {
            return refuse(STATE);
        }
        if (all.goodCount == 0) {
            return what == 0 ? 0 : NONE;
        }
        wayfarer.reckon(told, all);
        return what == 0 ? wayfarer.leastRoads(place) : wayfarer.firstGoal(told, place, all.goodOnes[0]);
    }

    public int row(int sign) {
        if (!told.hasSign(sign)) {
            return refuse(NOBODY);
        }
        if (reading.size >= MOST_READ) {
            return refuse(ROOM);
        }
        reading.add(sign);
        return reading.size;
    }

    public int book(int what) {
        if (what != 0 && what != 1) {
            return refuse(OTHER);
        }
        if (reading.size == 0) {
            return refuse(STATE);
        }
        reading.trace(told);
        int answer = what == 0 ? reading.walkCount() : reading.endPlaces();
        reading.clear();
        return answer;
    }

    public int next() {
        int open = all.openFacts(0, 0);
        int best = NONE;
        int bestPart = all.goodCount;
        for (int place = 0; place < told.placeCount; place++) {
            int part = leastGreaterPart(told.shownAt[place] & open);
            // An open fact is so in some good world and not in another, so its greater part is never all.
            if (part < bestPart) {
                best = place;
                bestPart = part;
            }
        }
        return best;
    }

    public int lands(int n, int z, int what) {
        if (n < 1) {
            return refuse(BELOW);
        }
        if (n > MOST_DRAWS) {
            return refuse(ROOM);
        }
        if (what != 0 && what != 1) {
            return refuse(OTHER);
        }
        int seed = z;
        int hits = 0;
        for (int i = 0; i < n; i++) {
            seed = seed * 1664525 + 1013904223;
            int world = (seed & 0x7fffffff) / 256 % MOST_WORLDS & all.mask;
            if (what == 0 ? all.isFitting(world) : all.isGood(world)) {
                hits++;
            }
        }
        return hits;
    }

    public int judge(int world) {
        if (!all.has(world)) {
            return refuse(NOBODY);
        }
        int broken = found.firstBroken(world);
        if (broken >= 0) {
            return broken;
        }
        int misfit = told.firstMisfit(world);
        return misfit >= 0 ? 100 + misfit : NONE;
    }

    public int image() {
        keptLand.become(told);
        keptFound.become(found);
        imageTaken = true;
        return found.size;
    }

    public int on() {
        if (!imageTaken) {
            return refuse(STATE);
        }
        told.become(keptLand);
        found.become(keptFound);
        reading.clear();
        all.reckon(told);
        all.sift(found);
        return found.size;
    }

    public int count(int what) {
        if (what >= 11 && what <= 16) {
            return refusals[what - 10];
        }
        switch (what) {
            case 0:
                return told.placeCount;
            case 1:
                return told.roadCount;
            case 2:
                return told.factCount;
            case 3:
                return told.signCount;
            case 4:
                return found.size;
            case 5:
                return all.fittingCount;
            case 6:
                return all.goodCount;
            case 7:
                return reading.size;
            case 8:
                return text.size;
            case 9:
                return told.hasInn() ? 1 : 0;
            default:
                return NONE;
        }
    }

    private int refuse(int number) {
        int kind = -number;
        if (kind >= 1 && kind < refusals.length) {
            refusals[kind]++;
        }
        return number;
    }

    private int readText() {
        int odd = text.firstOdd();
        if (odd >= 0) {
            return FAULT_OF_FORM - odd;
        }
        // A text with a fault must leave nothing behind, so it is read into a draft first.
        draft.become(told);
        int statements = 0;
        for (int start = 0; start < text.size; start += Math.max(1, text.lengthAt(start))) {
            if (!draft.take(text, start)) {
                return FAULT_OF_SENSE - start;
            }
            statements++;
        }
        told.become(draft);
        all.reckon(told);
        all.sift(found);
        return statements;
    }

    private int find(int bit, int is) {
        if (is != 0 && is != 1) {
            return refuse(OTHER);
        }
        if (found.size >= MOST_FOUND) {
            return refuse(ROOM);
        }
        found.add(bit, is == 1);
        all.sift(found);
        return found.size;
    }

    private int leastGreaterPart(int facts) {
        int least = all.goodCount;
        for (int fact = 0; fact < told.factCount; fact++) {
            if (Bits.has(facts, fact)) {
                int so = all.goodWith(fact);
                least = Math.min(least, Math.max(so, all.goodCount - so));
            }
        }
        return least;
    }

    private static final class Bits {
        static boolean has(int bits, int i) {
            return (bits >> i & 1) == 1;
        }

        static boolean allow(int bits, int so, int not) {
            return (bits & so) == so && (bits & not) == 0;
        }
    }

    /** The letters that came, and the forms of the statements: d is any digit, k a letter of a kind. */
    private static final class Text {
        private static final String KIND_LETTERS = "fnaoxwj";

        int size = 0;
        final int[] letters = new int[MOST_LETTERS];

        void add(int c) {
            if (size < letters.length) {
                letters[size] = c;
                size++;
            }
        }

        void clear() {
            size = 0;
        }

        int at(int place) {
            return place >= 0 && place < size ? letters[place] : 0;
        }

        int digitAt(int place) {
            return isDigit(at(place)) ? at(place) - '0' : -1;
        }

        int kindAt(int place) {
            return KIND_LETTERS.indexOf((char) at(place));
        }

        int lengthAt(int start) {
            return formOf(at(start)).length();
        }

        /** The place of the first letter that can not be there, the end if something lacks; -1 if all is well. */
        int firstOdd() {
            String form = "";
            int step = 0;
            for (int place = 0; place < size; place++) {
                if (step == form.length()) {
                    form = formOf(letters[place]);
                    step = 0;
                }
                if (step >= form.length() || !suits(form.charAt(step), letters[place])) {
                    return place;
                }
                step++;
            }
            return size == 0 || step < form.length() ? size : -1;
        }

        private static String formOf(int first) {
            switch (first) {
                case 'n':
                    return "nd;";
                case 'r':
                    return "rdd;";
                case 'f':
                    return "f;";
                case 's':
                    return "sdkdd;";
                case 'l':
                    return "ldd;";
                case 'i':
                    return "iddd;";
                default:
                    return "";
            }
        }

        private static boolean suits(char due, int c) {
            if (due == 'd') {
                return isDigit(c);
            }
            if (due == 'k') {
                return KIND_LETTERS.indexOf((char) c) >= 0;
            }
            return due == c;
        }

        private static boolean isDigit(int c) {
            return c >= '0' && c <= '9';
        }
    }

    /** All that is told, and what the signs say in a world. */
    private static final class Land {
        int placeCount = 4;
        int roadCount = 0;
        int factCount = 0;
        int signCount = 0;
        final int[] roadFirst = new int[MOST_ROADS];
        final int[] roadSecond = new int[MOST_ROADS];
        final int[] kind = new int[MOST_SIGNS];
        final int[] standsOn = new int[MOST_SIGNS];
        final int[] partA = new int[MOST_SIGNS];
        final int[] partB = new int[MOST_SIGNS];
        final int[] shownAt = new int[MOST_PLACES];
        int innIfSo = -1;
        int innIfNot = -1;
        int innFact = -1;

        void become(Land other) {
            placeCount = other.placeCount;
            roadCount = other.roadCount;
            factCount = other.factCount;
            signCount = other.signCount;
            System.arraycopy(other.roadFirst, 0, roadFirst, 0, MOST_ROADS);
            System.arraycopy(other.roadSecond, 0, roadSecond, 0, MOST_ROADS);
            System.arraycopy(other.kind, 0, kind, 0, MOST_SIGNS);
            System.arraycopy(other.standsOn, 0, standsOn, 0, MOST_SIGNS);
            System.arraycopy(other.partA, 0, partA, 0, MOST_SIGNS);
            System.arraycopy(other.partB, 0, partB, 0, MOST_SIGNS);
            System.arraycopy(other.shownAt, 0, shownAt, 0, MOST_PLACES);
            innIfSo = other.innIfSo;
            innIfNot = other.innIfNot;
            innFact = other.innFact;
        }

        boolean hasPlace(int place) {
            return place >= 0 && place < placeCount;
        }

        boolean hasRoad(int road) {
            return road >= 0 && road < roadCount;
        }

        boolean hasFact(int fact) {
            return fact >= 0 && fact < factCount;
        }

        boolean hasSign(int sign) {
            return sign >= 0 && sign < signCount;
        }

        boolean hasInn() {
            return innFact >= 0;
        }

        int signMask() {
            return (1 << signCount) - 1;
        }

        int worldMask() {
            return (1 << factCount) - 1 | signMask() << MOST_FACTS;
        }

        int innIn(int world) {
            return Bits.has(world, innFact) ? innIfSo : innIfNot;
        }

        boolean isRoadBetween(int one, int other) {
            for (int road = 0; road < roadCount; road++) {
                if (roadFirst[road] == one && roadSecond[road] == other
                        || roadFirst[road] == other && roadSecond[road] == one) {
                    return true;
                }
            }
            return false;
        }

        int signsOn(int road) {
            int bits = 0;
            for (int sign = 0; sign < signCount; sign++) {
                if (standsOn[sign] == road) {
                    bits |= 1 << sign;
                }
            }
            return bits;
        }

        /** Takes the statement that begins there, if it is as it must be behind what is told already. */
        boolean take(Text text, int start) {
            int one = text.digitAt(start + 1);
            int two = text.digitAt(start + 2);
            int three = text.digitAt(start + 3);
            switch (text.at(start)) {
                case 'n':
                    return takePlaces(one);
                case 'r':
                    return takeRoad(one, two);
                case 'f':
                    return takeFact();
                case 's':
                    return takeSign(one, text.kindAt(start + 2), three, text.digitAt(start + 4));
                case 'l':
                    return takeShown(one, two);
                case 'i':
                    return takeInn(one, two, three);
                default:
                    return false;
            }
        }

        private boolean takePlaces(int number) {
            if (number < 2 || number > MOST_PLACES || number < placesToldOf()) {
                return false;
            }
            placeCount = number;
            return true;
        }

        private int placesToldOf() {
            int last = Math.max(innIfSo, innIfNot);
            for (int road = 0; road < roadCount; road++) {
                last = Math.max(last, Math.max(roadFirst[road], roadSecond[road]));
            }
            for (int place = 0; place < MOST_PLACES; place++) {
                if (shownAt[place] != 0) {
                    last = Math.max(last, place);
                }
            }
            return last + 1;
        }

        private boolean takeRoad(int first, int second) {
            if (!hasPlace(first) || !hasPlace(second) || first == second || roadCount >= MOST_ROADS) {
                return false;
            }
            roadFirst[roadCount] = first;
            roadSecond[roadCount] = second;
            roadCount++;
            return true;
        }

        private boolean takeFact() {
            if (factCount >= MOST_FACTS) {
                return false;
            }
            factCount++;
            return true;
        }

        private boolean takeSign(int road, int itsKind, int a, int b) {
            if (!hasRoad(road) || signCount >= MOST_SIGNS || !canSpeakOf(itsKind, a, b)) {
                return false;
            }
            kind[signCount] = itsKind;
            standsOn[signCount] = road;
            partA[signCount] = a;
            partB[signCount] = b;
            signCount++;
            return true;
        }

        private boolean canSpeakOf(int itsKind, int a, int b) {
            switch (itsKind) {
                case PLAIN:
                case NOT:
                    return hasFact(a);
                case AND:
                case OR:
                case EITHER:
                    return hasFact(a) && hasFact(b);
                case WAY:
                    // The sign that comes has the number signCount, and may speak of itself.
                    return a >= 0 && a <= signCount;
                case JOKER:
                    return true;
                default:
                    return false;
            }
        }

        private boolean takeShown(int place, int fact) {
            if (!hasPlace(place) || !hasFact(fact)) {
                return false;
            }
            shownAt[place] |= 1 << fact;
            return true;
        }

        private boolean takeInn(int ifSo, int ifNot, int fact) {
            if (!hasPlace(ifSo) || !hasPlace(ifNot) || ifSo == ifNot || !hasFact(fact)) {
                return false;
            }
            innIfSo = ifSo;
            innIfNot = ifNot;
            innFact = fact;
            return true;
        }

        boolean isSaidSo(int sign, int world) {
            if (!hasSign(sign)) {
                return false;
            }
            boolean a = Bits.has(world, partA[sign]);
            boolean b = Bits.has(world, partB[sign]);
            switch (kind[sign]) {
                case PLAIN:
                    return a;
                case NOT:
                    return !a;
                case AND:
                    return a && b;
                case OR:
                    return a || b;
                case EITHER:
                    return a != b;
                case WAY:
                    return Bits.has(world, MOST_FACTS + partA[sign]);
                default:
                    return false;
            }
        }

        private boolean isMisfit(int sign, int world) {
            return kind[sign] != JOKER && Bits.has(world, MOST_FACTS + sign) != isSaidSo(sign, world);
        }

        int misfitsIn(int world) {
            int misfits = 0;
            for (int sign = 0; sign < signCount; sign++) {
                if (isMisfit(sign, world)) {
                    misfits++;
                }
            }
            return misfits;
        }

        int firstMisfit(int world) {
            for (int sign = 0; sign < signCount; sign++) {
                if (isMisfit(sign, world)) {
                    return sign;
                }
            }
            return -1;
        }

        /** Whether one comes back to the sign by what it and the others speak of. */
        boolean comesBack(int sign) {
            int at = sign;
            for (int step = 0; step < signCount; step++) {
                if (!hasSign(at) || kind[at] != WAY) {
                    return false;
                }
                at = partA[at];
                if (at == sign) {
                    return true;
                }
            }
            return false;
        }
    }

    /** The found things as they came, each a bit of a world that is so or not. */
    private static final class Finds {
        int size = 0;
        final int[] bit = new int[MOST_FOUND];
        final boolean[] isSo = new boolean[MOST_FOUND];

        void become(Finds other) {
            size = other.size;
            for (int i = 0; i < size; i++) {
                bit[i] = other.bit[i];
                isSo[i] = other.isSo[i];
            }
        }

        void add(int itsBit, boolean so) {
            if (size < MOST_FOUND) {
                bit[size] = itsBit;
                isSo[size] = so;
                size++;
            }
        }

        void dropLatest() {
            if (size > 0) {
                size--;
            }
        }

        /** The bits of a world that were found so, or those that were found not so. */
        int bitsFound(boolean so) {
            int bits = 0;
            for (int i = 0; i < size; i++) {
                if (isSo[i] == so) {
                    bits |= 1 << bit[i];
                }
            }
            return bits;
        }

        int firstBroken(int world) {
            for (int i = 0; i < size; i++) {
                if (Bits.has(world, bit[i]) != isSo[i]) {
                    return i;
                }
            }
            return -1;
        }

        /** The found things (bits) that are so in the world. */
        int keptIn(int world) {
            int bits = 0;
            for (int i = 0; i < size; i++) {
                if (Bits.has(world, bit[i]) == isSo[i]) {
                    bits |= 1 << i;
                }
            }
            return bits;
        }
    }

    /** How well each world fits, and which worlds are good. */
    private static final class Worlds {
        private static final int NO_WORLD = 7;

        int mask = 0;
        int fittingCount = 0;
        int goodCount = 0;
        final int[] goodOnes = new int[MOST_WORLDS];
        private int foundSo = 0;
        private int foundNot = 0;
        /** How many signs do not fit in a world; NO_WORLD, more than there can be, where something is not there. */
        private final int[] misfits = new int[MOST_WORLDS];

        void reckon(Land land) {
            mask = land.worldMask() & MOST_WORLDS - 1;
            fittingCount = 0;
            for (int world = 0; world <= mask; world++) {
                misfits[world] = has(world) ? land.misfitsIn(world) : NO_WORLD;
                if (misfits[world] == 0) {
                    fittingCount++;
                }
            }
        }

        void sift(Finds found) {
            foundSo = found.bitsFound(true);
            foundNot = found.bitsFound(false);
            goodCount = 0;
            for (int world = 0; world <= mask; world++) {
                if (isGood(world)) {
                    goodOnes[goodCount] = world;
                    goodCount++;
                }
            }
        }

        boolean has(int world) {
            return world >= 0 && (world & ~mask) == 0;
        }

        boolean isFitting(int world) {
            return has(world) && misfits[world] == 0;
        }

        boolean isGood(int world) {
            return isFitting(world) && isAsFound(world);
        }

        private boolean isAsFound(int world) {
            return Bits.allow(world, foundSo, foundNot);
        }

        /** What is so in all good worlds in which these are so and those not: all bits, if there are none. */
        int alwaysSo(int so, int not) {
            int bits = mask;
            for (int i = 0; i < goodCount; i++) {
                if (Bits.allow(goodOnes[i], so, not)) {
                    bits &= goodOnes[i];
                }
            }
            return bits;
        }

        /** What is so in one at least of the good worlds in which these are so and those not. */
        int everSo(int so, int not) {
            int bits = 0;
            for (int i = 0; i < goodCount; i++) {
                if (Bits.allow(goodOnes[i], so, not)) {
                    bits |= goodOnes[i];
                }
            }
            return bits;
        }

        int openFacts(int so, int not) {
            return everSo(so, not) & ~alwaysSo(so, not) & FACT_BITS;
        }

        int goodWith(int fact) {
            int number = 0;
            for (int i = 0; i < goodCount; i++) {
                if (Bits.has(goodOnes[i], fact)) {
                    number++;
                }
            }
            return number;
        }

        int sureWithJokers(int most) {
            int bits = mask & FACT_BITS;
            for (int world = 0; world <= mask; world++) {
                if (misfits[world] <= most && isAsFound(world)) {
                    bits &= world;
                }
            }
            return bits;
        }

        /** By how many jokers more the fact can first be so (or not so); NO_WORLD if by none. */
        int leastMisfits(int fact, boolean so) {
            int least = NO_WORLD;
            for (int world = 0; world <= mask; world++) {
                if (Bits.has(world, fact) == so && isAsFound(world)) {
                    least = Math.min(least, misfits[world]);
                }
            }
            return least;
        }

        /** Whether the fact is alike in good worlds that are alike in the ways of these signs. */
        boolean isAlikeBy(int fact, int signs) {
            // The ways of six signs are one of 64 patterns, so a long holds a mark for each.
            long so = 0;
            long not = 0;
            for (int i = 0; i < goodCount; i++) {
                long pattern = 1L << (goodOnes[i] >> MOST_FACTS & signs);
                if (Bits.has(goodOnes[i], fact)) {
                    so |= pattern;
                } else {
                    not |= pattern;
                }
            }
            return (so & not) == 0;
        }

        /** The fewest signs (bits) by which the fact is known, of several the least; NONE. */
        int fewestTelling(int fact, int signMask) {
            for (int number = 0; number <= MOST_NEEDED; number++) {
                for (int signs = 0; signs <= signMask; signs++) {
                    if (Integer.bitCount(signs) == number && isAlikeBy(fact, signs)) {
                        return signs;
                    }
                }
            }
            return NONE;
        }
    }

    /** Which sets of found things can not all be. */
    private static final class Clashes {
        private final boolean[] canBe = new boolean[1 << MOST_FOUND];

        int fewestClashing(Worlds all, Finds found) {
            int full = (1 << found.size) - 1;
            markSetsThatCanBe(all, found, full);
            int best = 0;
            int bestSize = MOST_FOUND + 1;
            for (int set = 0; set <= full; set++) {
                if (!canBe[set] && Integer.bitCount(set) < bestSize) {
                    best = set;
                    bestSize = Integer.bitCount(set);
                }
            }
            return best;
        }

        private void markSetsThatCanBe(Worlds all, Finds found, int full) {
            for (int set = 0; set <= full; set++) {
                canBe[set] = false;
            }
            for (int world = 0; world <= all.mask; world++) {
                if (all.isFitting(world)) {
                    canBe[found.keptIn(world) & full] = true;
                }
            }
            // What can be can be with one thing less, too.
            for (int i = 0; i < found.size; i++) {
                for (int set = 0; set <= full; set++) {
                    if (Bits.has(set, i) && canBe[set]) {
                        canBe[set ^ 1 << i] = true;
                    }
                }
            }
        }
    }

    /**
     * Ways to the inn. Of a place and what one knows before one looks around there (which facts, and which of
     * these are so) it holds the least number of roads that will do in any case.
     */
    private static final class Wayfarer {
        private static final int FAR = 99;

        private final int[] least = new int[MOST_PLACES * FACT_SETS * FACT_SETS];
        private final boolean[] canBe = new boolean[FACT_SETS];

        void reckon(Land land, Worlds all) {
            for (int facts = 0; facts < FACT_SETS; facts++) {
                canBe[facts] = false;
            }
            for (int i = 0; i < all.goodCount; i++) {
                canBe[all.goodOnes[i] & FACT_BITS] = true;
            }
            // Who knows more has the greater number as bits: it is reckoned ahead of what leads to it.
            for (int known = all.mask & FACT_BITS; known >= 0; known--) {
                for (int so = 0; so <= known; so++) {
                    if ((so & ~known) == 0) {
                        reckonAt(land, known, so);
                    }
                }
            }
        }

        int leastRoads(int place) {
            int roads = least[indexOf(place, 0, 0)];
            return roads <= MOST_STEPS ? roads : NONE;
        }

        /** Where one goes first if this world is so; NONE if one is there, or if no way does in any case. */
        int firstGoal(Land land, int place, int world) {
            int known = land.shownAt[place];
            int so = world & known;
            int roads = least[indexOf(place, known, so)];
            if (roads == 0 || leastRoads(place) == NONE) {
                return NONE;
            }
            for (int goal = 0; goal < land.placeCount; goal++) {
                if (land.isRoadBetween(place, goal) && least[indexOf(goal, known, so)] + 1 == roads) {
                    return goal;
                }
            }
            return NONE;
        }

        private static int indexOf(int place, int known, int so) {
            return (place * FACT_SETS + known) * FACT_SETS + so;
        }

        private void reckonAt(Land land, int known, int so) {
            for (int place = 0; place < land.placeCount; place++) {
                least[indexOf(place, known, so)] = showsMore(land, place, known)
                        ? worstOf(land, place, known, so)
                        : isInnSurelyAt(land, place, known, so) ? 0 : FAR;
            }
            for (int round = 1; round < land.placeCount; round++) {
                for (int road = 0; road < land.roadCount; road++) {
                    shorten(land, land.roadFirst[road], land.roadSecond[road], known, so);
                    shorten(land, land.roadSecond[road], land.roadFirst[road], known, so);
                }
            }
        }

        private static boolean showsMore(Land land, int place, int known) {
            return (land.shownAt[place] & ~known) != 0;
        }

        private int worstOf(Land land, int place, int known, int so) {
            int then = known | land.shownAt[place];
            int worst = 0;
            for (int facts = 0; facts < FACT_SETS; facts++) {
                if (canBe[facts] && (facts & known) == so) {
                    worst = Math.max(worst, least[indexOf(place, then, facts & then)]);
                }
            }
            return worst;
        }

        private boolean isInnSurelyAt(Land land, int place, int known, int so) {
            for (int facts = 0; facts < FACT_SETS; facts++) {
                if (canBe[facts] && (facts & known) == so && land.innIn(facts) != place) {
                    return false;
                }
            }
            return true;
        }

        private void shorten(Land land, int from, int to, int known, int so) {
            // What one will be shown at a place comes ahead of any choice there.
            if (!showsMore(land, from, known)) {
                int here = indexOf(from, known, so);
                least[here] = Math.min(least[here], least[indexOf(to, known, so)] + 1);
            }
        }
    }

    /** The row of signs that were read, and the walks by which they can have been. */
    private static final class Reading {
        int size = 0;
        private final int[] signs = new int[MOST_READ];
        /** By how many walks one can be at a place when so many signs are read. */
        private final int[] walks = new int[(MOST_READ + 1) * MOST_PLACES];

        void add(int sign) {
            if (size < MOST_READ) {
                signs[size] = sign;
                size++;
            }
        }

        void clear() {
            size = 0;
        }

        void trace(Land land) {
            for (int i = 0; i < walks.length; i++) {
                walks[i] = i < land.placeCount ? 1 : 0;
            }
            for (int done = 0; done < size; done++) {
                for (int road = 0; road < land.roadCount; road++) {
                    walk(land, road, true, done);
                    walk(land, road, false, done);
                }
            }
        }

        int walkCount() {
            int number = 0;
            for (int place = 0; place < MOST_PLACES; place++) {
                number += walks[size * MOST_PLACES + place];
            }
            return number;
        }

        int endPlaces() {
            int bits = 0;
            for (int place = 0; place < MOST_PLACES; place++) {
                if (walks[size * MOST_PLACES + place] > 0) {
                    bits |= 1 << place;
                }
            }
            return bits;
        }

        private void walk(Land land, int road, boolean forward, int done) {
            int length = Integer.bitCount(land.signsOn(road));
            if (length == 0 || !isReadNext(land, road, forward, done)) {
                return;
            }
            int from = forward ? land.roadFirst[road] : land.roadSecond[road];
            int to = forward ? land.roadSecond[road] : land.roadFirst[road];
            walks[(done + length) * MOST_PLACES + to] += walks[done * MOST_PLACES + from];
        }

        private boolean isReadNext(Land land, int road, boolean forward, int done) {
            int at = done;
            for (int i = 0; i < land.signCount; i++) {
                int sign = forward ? i : land.signCount - 1 - i;
                if (land.standsOn[sign] == road) {
                    if (at >= size || signs[at] != sign) {
                        return false;
                    }
                    at++;
                }
            }
            return true;
        }
    }
}
