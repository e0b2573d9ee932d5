/** Villages on roads without rounds, with depots that open and shut; asked by calls or by sentences. */
public final class RoadDepots {
    public static final int NONE = -1, BAD = -2, NO = -3, FULL = -4;

    private static final int NOT_SO_MANY = -5;
    private static final int BAD_PLACE = -10;
    private static final int FAULT_BASE = -10;

    private static final int MOST_VILLAGES = 60;
    private static final int MOST_LENGTH = 99;
    private static final int MOST_SPAN = 6000;
    private static final int MOST_SPAN_IN_WORDS = 99;
    private static final int MOST_SEED = 999999;
    private static final int MOST_BYTES = 120;
    private static final int MOST_BYTE = 127;
    private static final int MOST_SIGNS = 400;
    /** The shortest sentence, "all;", has four bytes. */
    private static final int MOST_SENTENCES = MOST_BYTES / 4;
    /** Above every distance: 59 roads of 99 are 5841. */
    private static final int ENDLESS = 1000000;

    private final Land land;
    private final Ways ways;
    private final Depots depots;
    private final Text text;
    private final Reader reader;
    private final Line line;
    private final Teller teller;
    private int badCalls;
    private int fullCalls;

    public RoadDepots() {
        land = new Land();
        ways = new Ways(land);
        depots = new Depots(land);
        text = new Text();
        reader = new Reader(text);
        line = new Line();
        teller = new Teller(land, ways, depots, line);
    }

    // ---- the land

    public int add(int v, int length) {
        if (!land.has(v) || !isLength(length)) {
            return refuseBad();
        }
        if (land.count >= MOST_VILLAGES) {
            return refuseFull();
        }
        return land.settle(v, length);
    }

    public int depot(int v, int open) {
        if (!land.has(v) || !isUpTo(open, 1)) {
            return refuseBad();
        }
        return land.setDepot(v, open == 1);
    }

    public int road(int v, int length) {
        if (!land.has(v) || v == 0 || !isLength(length)) {
            return refuseBad();
        }
        return land.setRoad(v, length);
    }

    public int anew() {
        return land.empty();
    }

    public int draw(int seed, int n) {
        if (!isUpTo(seed, MOST_SEED) || !isUpTo(n, MOST_VILLAGES - 1)) {
            return refuseBad();
        }
        return land.sow(seed, n);
    }

    public int of(int v, int what) {
        if (!land.has(v) || !isUpTo(what, 3)) {
            return refuseBad();
        }
        return land.aspect(v, what);
    }

    // ---- ways

    public int far(int u, int v) {
        if (!land.has(u) || !land.has(v)) {
            return refuseBad();
        }
        return land.gap(u, v);
    }

    public int way(int u, int v, int k) {
        if (!land.has(u) || !land.has(v) || k < NONE) {
            return refuseBadPlace();
        }
        ways.walk(u, v);
        if (k == NONE) {
            return ways.steps;
        }
        return k < ways.steps ? ways.trail[k] : NOT_SO_MANY;
    }

    public int longest(int what) {
        if (!isUpTo(what, 2)) {
            return refuseBad();
        }
        return ways.span(what);
    }

    public int middle(int what) {
        if (!isUpTo(what, 2)) {
            return refuseBad();
        }
        return ways.heart(what);
    }

    // ---- depots

    public int nearest(int v, int what) {
        if (!land.has(v) || !isUpTo(what, 1)) {
            return refuseBad();
        }
        return whichOrFar(v, depots.closest(v), what);
    }

    public int turn(int v, int k, int what) {
        if (!land.has(v) || k < 0 || !isUpTo(what, 1)) {
            return refuseBad();
        }
        return whichOrFar(v, depots.ranked(v, k), what);
    }

    public int within(int v, int n) {
        if (!land.has(v) || !isUpTo(n, MOST_SPAN)) {
            return refuseBad();
        }
        return depots.countWithin(v, n);
    }

    public int sum(int v) {
        if (!land.has(v)) {
            return refuseBad();
        }
        return depots.total(v);
    }

    public int left(int what) {
        if (!isUpTo(what, 1)) {
            return refuseBad();
        }
        return depots.remotest(what);
    }

    public int more(int what) {
        if (!isUpTo(what, 1)) {
            return refuseBad();
        }
        return depots.bestNew(what);
    }

    public int serves(int v) {
        if (!land.has(v)) {
            return refuseBad();
        }
        return depots.countServed(v);
    }

    public int pair(int what) {
        if (!isUpTo(what, 2)) {
            return refuseBad();
        }
        return depots.closestTwo(what);
    }

    // ---- words

    public int type(int c) {
        if (!isUpTo(c, MOST_BYTE)) {
            return refuseBad();
        }
        if (text.size >= MOST_BYTES) {
            return refuseFull();
        }
        return text.put(c);
    }

    public int clear() {
        return text.empty();
    }

    public int says() {
        int fault = reader.read(land.count);
        if (fault != NONE) {
            return FAULT_BASE - fault;
        }
        line.empty();
        for (int i = 0; i < reader.count; i++) {
            if (i > 0) {
                line.put(' ');
            }
            teller.tell(reader.words[i], reader.firsts[i], reader.seconds[i]);
        }
        return reader.count;
    }

    public int answer(int k) {
        if (k < NONE) {
            return refuseBadPlace();
        }
        if (k == NONE) {
            return line.size;
        }
        return k < line.size ? line.signs[k] : NOT_SO_MANY;
    }

    public int told(int what) {
        if (!isUpTo(what, 6)) {
            return refuseBad();
        }
        return tally(what);
    }

    public long digest() {
        long h = 1997;
        for (int what = 0; what <= 6; what++) {
            h = 31 * h + tally(what);
        }
        for (int v = 0; v < land.count; v++) {
            for (int what = 0; what <= 2; what++) {
                h = 31 * h + land.aspect(v, what);
            }
        }
        for (int k = 0; k < line.size; k++) {
            h = 31 * h + line.signs[k];
        }
        return h;
    }

    private int tally(int what) {
        switch (what) {
            case 0:
                return badCalls;
            case 2:
                return fullCalls;
            case 3:
                return text.size;
            case 4:
                return land.count;
            case 5:
                return land.openCount;
            case 6:
                return line.size;
            default:
                // No call is ever refused by NO.
                return 0;
        }
    }

    private int whichOrFar(int v, int depot, int what) {
        return depot == NONE || what == 0 ? depot : land.gap(v, depot);
    }

    private int refuseBad() {
        badCalls++;
        return BAD;
    }

    private int refuseBadPlace() {
        badCalls++;
        return BAD_PLACE;
    }

    private int refuseFull() {
        fullCalls++;
        return FULL;
    }

    private static boolean isUpTo(int n, int most) {
        return n >= 0 && n <= most;
    }

    private static boolean isLength(int n) {
        return n >= 1 && n <= MOST_LENGTH;
    }

    /** The villages, their roads and depots, and how far each village is from each. */
    private static final class Land {
        final int[] roots = new int[MOST_VILLAGES];
        final int[] lengths = new int[MOST_VILLAGES];
        final boolean[] open = new boolean[MOST_VILLAGES];
        private final int[] gaps = new int[MOST_VILLAGES * MOST_VILLAGES];
        int count;
        int openCount;

        Land() {
            empty();
        }

        boolean has(int v) {
            return v >= 0 && v < count;
        }

        /** Leaves village 0 alone; answers how many villages there were. */
        int empty() {
            int were = count;
            count = 1;
            openCount = 0;
            roots[0] = NONE;
            lengths[0] = 0;
            open[0] = false;
            return were;
        }

        int settle(int root, int length) {
            if (!has(root) || count >= MOST_VILLAGES) {
                return NONE;
            }
            int v = count;
            count++;
            roots[v] = root;
            lengths[v] = length;
            open[v] = false;
            measure(v);
            return v;
        }

        /** Answers 1, if the depot was otherwise, else 0. */
        int setDepot(int v, boolean becomesOpen) {
            if (!has(v) || open[v] == becomesOpen) {
                return 0;
            }
            open[v] = becomesOpen;
            openCount += becomesOpen ? 1 : -1;
            return 1;
        }

        /** Answers what the length was. */
        int setRoad(int v, int length) {
            if (!has(v)) {
                return NONE;
            }
            int was = lengths[v];
            lengths[v] = length;
            // No way between lesser villages leads over this road.
            for (int u = v; u < count; u++) {
                measure(u);
            }
            return was;
        }

        /** Answers how many depots are open then. */
        int sow(int seed, int n) {
            empty();
            long x = seed;
            for (int i = 0; i < n && count > 0; i++) {
                x = (x * 1103515245L + 12345L) % 2147483648L;
                int v = settle((int) (x / 65536 % count), (int) (x / 1024 % 99) + 1);
                if (has(v) && x / 32768 % 4 == 0) {
                    setDepot(v, true);
                }
            }
            return openCount;
        }

        /** The root (0), the road's length (1), whether the depot is open (2), how many roads (3). */
        int aspect(int v, int what) {
            if (!has(v)) {
                return NONE;
            }
            switch (what) {
                case 0:
                    return roots[v];
                case 1:
                    return lengths[v];
                case 2:
                    return open[v] ? 1 : 0;
                default:
                    return countRoads(v);
            }
        }

        int gap(int u, int v) {
            int place = u * MOST_VILLAGES + v;
            return place >= 0 && place < gaps.length ? gaps[place] : 0;
        }

        private int countRoads(int v) {
            int roads = v == 0 ? 0 : 1;
            for (int u = 1; u < count; u++) {
                if (roots[u] == v) {
                    roads++;
                }
            }
            return roads;
        }

        /** A root has a lesser number than its village, so all that this reads is measured already. */
        private void measure(int v) {
            int root = roots[v];
            for (int u = 0; u < v && has(root); u++) {
                int far = gap(root, u) + lengths[v];
                gaps[v * MOST_VILLAGES + u] = far;
                gaps[u * MOST_VILLAGES + v] = far;
            }
        }
    }

    /** The ways between villages, the longest of them and the middles. */
    private static final class Ways {
        private final Land land;
        /** The villages of the way that was walked last, and how many they are. */
        final int[] trail = new int[MOST_VILLAGES];
        int steps;
        /** How many villages hang on each, itself too, away from village 0. */
        private final int[] weights = new int[MOST_VILLAGES];

        Ways(Land land) {
            this.land = land;
        }

        /** Fills the trail from both ends: of two villages, the greater is never on the other's way to 0. */
        void walk(int u, int v) {
            int from = u;
            int to = v;
            int front = 0;
            int back = MOST_VILLAGES;
            while (from != to && land.has(from) && land.has(to) && front + 1 < back) {
                if (from > to) {
                    trail[front] = from;
                    front++;
                    from = land.roots[from];
                } else {
                    back--;
                    trail[back] = to;
                    to = land.roots[to];
                }
            }
            trail[front] = from;
            front++;
            for (int i = back; i < MOST_VILLAGES && front <= i; i++) {
                trail[front] = trail[i];
                front++;
            }
            steps = front;
        }

        /** The longest way: how far (0), its least end (1), the least other end from that (2). */
        int span(int what) {
            int far = 0;
            int end = 0;
            int otherEnd = 0;
            for (int u = 0; u < land.count; u++) {
                for (int v = 0; v < land.count; v++) {
                    if (land.gap(u, v) > far) {
                        far = land.gap(u, v);
                        end = u;
                        otherEnd = v;
                    }
                }
            }
            return what == 0 ? far : what == 1 ? end : otherEnd;
        }

        /** The middle by the farthest village (0), by all together (1), by the greatest rest (2). */
        int heart(int what) {
            weigh();
            int best = 0;
            int least = burden(0, what);
            for (int v = 1; v < land.count; v++) {
                int burden = burden(v, what);
                if (burden < least) {
                    least = burden;
                    best = v;
                }
            }
            return best;
        }

        private int burden(int v, int what) {
            return what == 0 ? farthest(v) : what == 1 ? distanceOfAll(v) : greatestRest(v);
        }

        private int farthest(int v) {
            int far = 0;
            for (int u = 0; u < land.count; u++) {
                far = Math.max(far, land.gap(v, u));
            }
            return far;
        }

        private int distanceOfAll(int v) {
            int all = 0;
            for (int u = 0; u < land.count; u++) {
                all += land.gap(v, u);
            }
            return all;
        }

        private int greatestRest(int v) {
            int rest = land.count - weights[v];
            for (int u = 1; u < land.count; u++) {
                if (land.roots[u] == v) {
                    rest = Math.max(rest, weights[u]);
                }
            }
            return rest;
        }

        private void weigh() {
            for (int v = 0; v < land.count; v++) {
                weights[v] = 1;
            }
            for (int v = land.count - 1; v > 0; v--) {
                int root = land.roots[v];
                if (land.has(root)) {
                    weights[root] += weights[v];
                }
            }
        }
    }

    /** What is asked of the open depots. */
    private static final class Depots {
        private final Land land;
        /** How far each village is from its nearest depot. */
        private final int[] reaches = new int[MOST_VILLAGES];

        Depots(Land land) {
            this.land = land;
        }

        int closest(int v) {
            int best = NONE;
            int least = ENDLESS;
            for (int d = 0; d < land.count; d++) {
                if (land.open[d] && land.gap(v, d) < least) {
                    least = land.gap(v, d);
                    best = d;
                }
            }
            return best;
        }

        /** The k-th nearest: just k open depots come before it. */
        int ranked(int v, int k) {
            for (int d = 0; d < land.count; d++) {
                if (land.open[d] && countBefore(v, d) == k) {
                    return d;
                }
            }
            return NONE;
        }

        int countWithin(int v, int n) {
            int found = 0;
            for (int d = 0; d < land.count; d++) {
                if (land.open[d] && land.gap(v, d) <= n) {
                    found++;
                }
            }
            return found;
        }

        int total(int v) {
            int all = 0;
            for (int d = 0; d < land.count; d++) {
                if (land.open[d]) {
                    all += land.gap(v, d);
                }
            }
            return all;
        }

        /** The village that is farthest from its nearest: how far (0), which (1). */
        int remotest(int what) {
            if (land.openCount == 0) {
                return NONE;
            }
            findReaches();
            int far = reaches[0];
            int which = 0;
            for (int v = 1; v < land.count; v++) {
                if (reaches[v] > far) {
                    far = reaches[v];
                    which = v;
                }
            }
            return what == 0 ? far : which;
        }

        /** The shut depot that would do most: which (0), how far is left then (1). */
        int bestNew(int what) {
            findReaches();
            int best = NONE;
            int least = ENDLESS;
            for (int d = 0; d < land.count; d++) {
                int rest = land.open[d] ? ENDLESS : leftWith(d);
                if (rest < least) {
                    least = rest;
                    best = d;
                }
            }
            return best == NONE || what == 0 ? best : least;
        }

        int countServed(int depot) {
            int served = 0;
            for (int v = 0; v < land.count; v++) {
                if (countBefore(v, depot) == 0) {
                    served++;
                }
            }
            return served;
        }

        /** The two that are least far from one another: how far (0), the lesser (1), the other (2). */
        int closestTwo(int what) {
            int far = ENDLESS;
            int lesser = NONE;
            int other = NONE;
            for (int d = 0; d < land.count; d++) {
                for (int e = d + 1; e < land.count; e++) {
                    if (land.open[d] && land.open[e] && land.gap(d, e) < far) {
                        far = land.gap(d, e);
                        lesser = d;
                        other = e;
                    }
                }
            }
            if (lesser == NONE) {
                return NONE;
            }
            return what == 0 ? far : what == 1 ? lesser : other;
        }

        /** How many open depots are nearer to v than this one (which may be shut). */
        private int countBefore(int v, int depot) {
            int before = 0;
            int far = land.gap(v, depot);
            for (int d = 0; d < land.count; d++) {
                int gap = land.gap(v, d);
                if (land.open[d] && (gap < far || gap == far && d < depot)) {
                    before++;
                }
            }
            return before;
        }

        private void findReaches() {
            for (int v = 0; v < land.count; v++) {
                int depot = closest(v);
                reaches[v] = depot == NONE ? ENDLESS : land.gap(v, depot);
            }
        }

        private int leftWith(int depot) {
            int far = 0;
            for (int v = 0; v < land.count; v++) {
                far = Math.max(far, Math.min(reaches[v], land.gap(v, depot)));
            }
            return far;
        }
    }

    /** The text: the bytes that were typed. */
    private static final class Text {
        private final byte[] bytes = new byte[MOST_BYTES];
        int size;

        Text() {
            size = 0;
        }

        int put(int c) {
            if (size < MOST_BYTES) {
                bytes[size] = (byte) c;
                size++;
            }
            return size;
        }

        int empty() {
            int had = size;
            size = 0;
            return had;
        }

        /** NONE behind the end. */
        int byteAt(int place) {
            return place >= 0 && place < size ? bytes[place] : NONE;
        }

        boolean isLetter(int place) {
            int c = byteAt(place);
            return c >= 'a' && c <= 'z';
        }

        boolean isFigure(int place) {
            int c = byteAt(place);
            return c >= '0' && c <= '9';
        }

        boolean isWord(int start, int end, String word) {
            if (end - start != word.length()) {
                return false;
            }
            for (int i = 0; i < word.length(); i++) {
                if (byteAt(start + i) != word.charAt(i)) {
                    return false;
                }
            }
            return true;
        }
    }

    /** The words that begin a sentence, and which numbers each wants. */
    private static final class Words {
        static final int ADD = 0, OPEN = 1, SHUT = 2, ROAD = 3, NEAR = 4;
        static final int FAR = 5, WAY = 6, WITHIN = 7, ALL = 8, SUM = 9;
        private static final int HOW_MANY = 10;

        static final int NOTHING = 0, VILLAGE = 1, VILLAGE_WITH_ROOT = 2, LENGTH = 3, SPAN = 4;
        private static final int[] FIRST = {
            VILLAGE, VILLAGE, VILLAGE, VILLAGE_WITH_ROOT, VILLAGE,
            VILLAGE, VILLAGE, VILLAGE, NOTHING, VILLAGE
        };
        private static final int[] SECOND = {
            LENGTH, NOTHING, NOTHING, LENGTH, NOTHING,
            VILLAGE, VILLAGE, SPAN, NOTHING, NOTHING
        };

        /** Which word stands from start to before end; NONE, if it is none. */
        static int find(Text text, int start, int end) {
            for (int word = 0; word < HOW_MANY; word++) {
                if (text.isWord(start, end, spelling(word))) {
                    return word;
                }
            }
            return NONE;
        }

        static int firstNeed(int word) {
            return word >= 0 && word < FIRST.length ? FIRST[word] : NOTHING;
        }

        static int secondNeed(int word) {
            return word >= 0 && word < SECOND.length ? SECOND[word] : NOTHING;
        }

        static boolean suits(int need, int number, int villages) {
            switch (need) {
                case VILLAGE:
                    return number < villages;
                case VILLAGE_WITH_ROOT:
                    return number > 0 && number < villages;
                case LENGTH:
                    return isLength(number);
                default:
                    return number <= MOST_SPAN_IN_WORDS;
            }
        }

        private static String spelling(int word) {
            switch (word) {
                case ADD:
                    return "add";
                case OPEN:
                    return "open";
                case SHUT:
                    return "shut";
                case ROAD:
                    return "road";
                case NEAR:
                    return "near";
                case FAR:
                    return "far";
                case WAY:
                    return "way";
                case WITHIN:
                    return "within";
                case ALL:
                    return "all";
                default:
                    return "sum";
            }
        }
    }

    /** Reads the text into sentences and finds the fault before any of them is done. */
    private static final class Reader {
        final int[] words = new int[MOST_SENTENCES];
        final int[] firsts = new int[MOST_SENTENCES];
        final int[] seconds = new int[MOST_SENTENCES];
        int count;
        private final Text text;
        private int place;
        private int fault;
        /** How many villages there are by then, as sentences before this one add some. */
        private int villages;

        Reader(Text text) {
            this.text = text;
        }

        /** The place of the fault, or NONE. */
        int read(int villagesAtFirst) {
            count = 0;
            place = 0;
            fault = NONE;
            villages = villagesAtFirst;
            // An empty text is read as a sentence that ends too early; blanks behind the last one do not matter.
            for (int i = 0; i < MOST_SENTENCES && fault == NONE && (i == 0 || place < text.size); i++) {
                readSentence();
                skipBlanks();
            }
            return fault;
        }

        private void readSentence() {
            int word = readWord();
            int first = readNumber(Words.firstNeed(word));
            int second = readNumber(Words.secondNeed(word));
            readEnd();
            if (fault == NONE) {
                keep(word, first, second);
            }
        }

        private int readWord() {
            skipBlanks();
            int start = place;
            while (place < text.size && text.isLetter(place)) {
                place++;
            }
            int word = Words.find(text, start, place);
            if (word == NONE || word == Words.ADD && villages >= MOST_VILLAGES) {
                fault = start;
            }
            return word;
        }

        private int readNumber(int need) {
            if (fault != NONE || need == Words.NOTHING) {
                return 0;
            }
            skipBlanks();
            int start = place;
            int number = 0;
            while (place < text.size && text.isFigure(place)) {
                number = number * 10 + text.byteAt(place) - '0';
                place++;
            }
            int figures = place - start;
            if (figures < 1 || figures > 2 || !Words.suits(need, number, villages)) {
                fault = start;
            }
            return number;
        }

        private void readEnd() {
            if (fault != NONE) {
                return;
            }
            skipBlanks();
            if (text.byteAt(place) == ';') {
                place++;
            } else {
                fault = place;
            }
        }

        private void keep(int word, int first, int second) {
            if (count < MOST_SENTENCES) {
                words[count] = word;
                firsts[count] = first;
                seconds[count] = second;
                count++;
            }
            if (word == Words.ADD) {
                villages++;
            }
        }

        private void skipBlanks() {
            while (place < text.size && text.byteAt(place) == ' ') {
                place++;
            }
        }
    }

    /** The answer: one line, of which the rest is left out when it is full. */
    private static final class Line {
        final byte[] signs = new byte[MOST_SIGNS];
        int size;

        Line() {
            size = 0;
        }

        void empty() {
            size = 0;
        }

        void put(int sign) {
            if (size < MOST_SIGNS) {
                signs[size] = (byte) sign;
                size++;
            }
        }

        /** No number that is told is below 0 or has more than nine figures. */
        void putNumber(int number) {
            int unit = 1;
            for (int figures = 1; figures < 9 && number / unit >= 10; figures++) {
                unit *= 10;
            }
            for (int rest = unit; rest > 0; rest /= 10) {
                put('0' + number / rest % 10);
            }
        }
    }

    /** Does sentences that were read without a fault, and writes what they answer. */
    private static final class Teller {
        private final Land land;
        private final Ways ways;
        private final Depots depots;
        private final Line line;

        Teller(Land land, Ways ways, Depots depots, Line line) {
            this.land = land;
            this.ways = ways;
            this.depots = depots;
            this.line = line;
        }

        void tell(int word, int first, int second) {
            switch (word) {
                case Words.ADD:
                    line.putNumber(land.settle(first, second));
                    break;
                case Words.OPEN:
                    line.putNumber(land.setDepot(first, true));
                    break;
                case Words.SHUT:
                    line.putNumber(land.setDepot(first, false));
                    break;
                case Words.ROAD:
                    line.putNumber(land.setRoad(first, second));
                    break;
                case Words.NEAR:
                    tellNearest(first);
                    break;
                case Words.FAR:
                    line.putNumber(land.gap(first, second));
                    break;
                case Words.WAY:
                    tellWay(first, second);
                    break;
                case Words.WITHIN:
                    line.putNumber(depots.countWithin(first, second));
                    break;
                case Words.ALL:
                    tellAll();
                    break;
                default:
                    line.putNumber(depots.total(first));
                    break;
            }
        }

        private void tellNearest(int v) {
            int depot = depots.closest(v);
            if (depot == NONE) {
                line.put('-');
                return;
            }
            line.putNumber(depot);
            line.put('@');
            line.putNumber(land.gap(v, depot));
        }

        private void tellWay(int u, int v) {
            ways.walk(u, v);
            for (int i = 0; i < ways.steps; i++) {
                if (i > 0) {
                    line.put('>');
                }
                line.putNumber(ways.trail[i]);
            }
        }

        private void tellAll() {
            if (land.openCount == 0) {
                line.put('-');
            }
            int told = 0;
            for (int d = 0; d < land.count; d++) {
                if (land.open[d]) {
                    if (told > 0) {
                        line.put(',');
                    }
                    line.putNumber(d);
                    told++;
                }
            }
        }
    }
}
