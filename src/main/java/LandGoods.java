/** Who makes what for whom: lands, goods, and the wages by which all is sold and nobody makes below cost. */
public final class LandGoods {
    public static final int NONE = -1000000;
    public static final long NOT = -9000000000000000000L;

    private static final long BAD = NOT - 1;
    private static final long STATE = NOT - 2;
    private static final long FULL = NOT - 3;

    private static final int NULL = 1;
    private static final int PLACE = 2;
    private static final int KIND = 3;
    private static final int SIZE = 4;
    private static final int STORE = 5;

    private static final int MOST_LANDS = 3;
    private static final int MOST_GOODS = 6;
    private static final int MOST_SHARE = 20;
    private static final int MOST_HANDS = 99;
    private static final int MOST_HOURS = 20;
    private static final int MOST_WAGE_BY_HAND = 999;
    private static final int MOST_FREIGHT = 900;
    private static final int MOST_MOVES = 5;

    private static final int ALONE = 1;
    private static final int COMMON = 2;
    private static final int EVERY = 3;
    private static final int HOME = 4;
    private static final int DEAR = 5;
    private static final int DEAR_FROM = 10;

    /** Of each kind the body that begins; a kind without one of its own has that of the nearest kind above it. */
    private static final int[] SIZE_BODIES = {10, 11, 12, 13, 14, 15};
    private static final int[] MARK_BODIES = {20, 21, 20, 22, 23, 23};
    private static final int DEEPEST_BODY = 20;

    /** All rings of up to three lands as numbers, the least first, so that the first that fits is the answer. */
    private static final int[] RINGS = {17, 25, 26, 153, 209};

    private final Rows rows;
    private final Tape tape;
    private final Trace bodies;
    private final Rest rest;
    private final Pair pair;
    private final World now;
    private final World ahead;
    private final World trial;
    private final long[] byHand;
    private final int[] spread;
    private boolean hasAhead;
    private int latestFinding;

    public LandGoods() {
        rows = new Rows();
        tape = new Tape();
        bodies = new Trace();
        rest = new Rest();
        pair = new Pair();
        now = new World();
        ahead = new World();
        trial = new World();
        byHand = new long[MOST_LANDS];
        spread = new int[MOST_GOODS];
        hasAhead = false;
        latestFinding = 0;
    }

    // ---- rows

    public long row(int row, int lane, int n) {
        if (!Rows.isRow(row) || !Rows.isLane(lane) || n > Rows.MOST_ITEMS) {
            return BAD;
        }
        if (n < 0) {
            return found(SIZE);
        }
        rows.make(row, lane, n);
        return fine(n);
    }

    public long set(int row, int i, int v) {
        if (!Rows.isRow(row)) {
            return BAD;
        }
        if (rows.isMissing(row)) {
            return found(NULL);
        }
        if (!rows.has(row, i, 1)) {
            return found(PLACE);
        }
        return fine(rows.put(row, i, v));
    }

    public long copy(int a, int i, int b, int j, int n) {
        if (!Rows.isRow(a) || !Rows.isRow(b)) {
            return BAD;
        }
        if (rows.isMissing(a) || rows.isMissing(b)) {
            return found(NULL);
        }
        if (!rows.sameLane(a, b)) {
            return found(STORE);
        }
        if (!rows.has(a, i, n) || !rows.has(b, j, n)) {
            return found(PLACE);
        }
        rows.carry(a, i, b, j, n);
        return fine(n);
    }

    public long drop(int row) {
        if (!Rows.isRow(row)) {
            return BAD;
        }
        if (rows.isMissing(row)) {
            return found(NULL);
        }
        return fine(rows.remove(row));
    }

    // ---- worlds

    public long feed(long w, int n) {
        if (n < 1 || n > 8) {
            return BAD;
        }
        if (!tape.hasRoom(n)) {
            return FULL;
        }
        return tape.append(w, n);
    }

    public long world() {
        boolean read = tape.readInto(trial);
        tape.empty();
        if (!read) {
            return NOT - 100 - tape.faultPlace;
        }
        rest.settle(trial);
        now.take(trial);
        hasAhead = false;
        return now.lands;
    }

    public int fault() {
        return tape.faultNumber;
    }

    public long told(int land, int good, int what) {
        if (!now.isLand(land) || !now.isGood(good)) {
            return BAD;
        }
        switch (what) {
            case 0:
                return now.hours[land][good];
            case 1:
                return now.hands[land];
            case 2:
                return now.shares[good];
            default:
                return BAD;
        }
    }

    // ---- at rest

    public long wage(int land, int what) {
        if (!now.isLand(land) || what < 0 || what > 1) {
            return BAD;
        }
        return part(now.wages[land], now.wages[0], what);
    }

    public long price(int good, int what) {
        if (!now.isGood(good) || what < 0 || what > 2) {
            return BAD;
        }
        if (what == 2) {
            return now.makersBy(now.wages, good);
        }
        return part(now.leastCost(now.wages, good), now.wages[0], what);
    }

    public long gain(int land, int good, int what) {
        if (!now.isLand(land) || !now.isGood(good) || what < 0 || what > 1) {
            return BAD;
        }
        return part(now.cost(now.wages, land, good), now.leastCost(now.wages, good), what);
    }

    public long judge(int row, int i) {
        if (!Rows.isRow(row)) {
            return BAD;
        }
        if (!now.isThere()) {
            return STATE;
        }
        int finding = findingAt(row, i, now.lands);
        if (finding != 0) {
            return found(finding);
        }
        for (int land = 0; land < now.lands; land++) {
            int item = rows.item(row, i + land);
            if (item < 1 || item > MOST_WAGE_BY_HAND) {
                return BAD;
            }
            byHand[land] = item;
        }
        return fine(now.idleBy(byHand));
    }

    // ---- lands beside lands

    public long chain(int a, int b, int i) {
        if (!now.isLand(a) || !now.isLand(b) || a == b || i < -1) {
            return BAD;
        }
        if (i >= now.goods) {
            return NONE;
        }
        pair.layTwo(now, a, b);
        pair.sort();
        if (i >= 0) {
            return pair.order[i];
        }
        pair.settleTwo();
        return pair.cut();
    }

    public long more(int row, int i) {
        if (!Rows.isRow(row)) {
            return BAD;
        }
        if (!now.isThere()) {
            return STATE;
        }
        int finding = findingAt(row, i, now.goods);
        if (finding != 0) {
            return found(finding);
        }
        for (int good = 0; good < now.goods; good++) {
            int item = rows.item(row, i + good);
            if (item < 1 || item > now.allLands()) {
                return BAD;
            }
            spread[good] = item;
        }
        return fine(leastRing());
    }

    public long stays(int land, int good, int f) {
        if (!now.isLand(land) || !now.isGood(good) || f < 0 || f > MOST_FREIGHT) {
            return BAD;
        }
        long atHome = now.cost(now.wages, land, good) * 100;
        long carried = now.leastCost(now.wages, good) * (100 + f);
        return atHome <= carried ? 1 : 0;
    }

    public long learn(int land, int by, int good) {
        if (!now.isLand(land) || !now.isLand(by) || land == by || !now.isGood(good)) {
            return BAD;
        }
        keepAhead();
        int fewer = now.hours[land][good] - now.hours[by][good];
        if (fewer <= 0) {
            return 0;
        }
        now.hours[land][good] = now.hours[by][good];
        rest.settle(now);
        return fewer;
    }

    public long on(int land) {
        if (!now.isLand(land)) {
            return BAD;
        }
        if (!hasAhead) {
            return STATE;
        }
        boolean gains = false;
        boolean loses = false;
        for (int good = 0; good < now.goods; good++) {
            long today = now.wages[land] * ahead.leastCost(ahead.wages, good);
            long before = ahead.wages[land] * now.leastCost(now.wages, good);
            gains = gains || today > before;
            loses = loses || today < before;
        }
        if (gains) {
            return loses ? 2 : 1;
        }
        return loses ? -1 : 0;
    }

    public long edge(int land, int good) {
        if (!now.isLand(land) || !now.isGood(good)) {
            return BAD;
        }
        for (int d = 1; d < MOST_HOURS; d++) {
            if (makersChange(land, good, d)) {
                return d;
            }
            if (makersChange(land, good, -d)) {
                return -d;
            }
        }
        return NONE;
    }

    public long move(int n) {
        if (n < 1 || n > MOST_MOVES) {
            return BAD;
        }
        if (!now.isThere()) {
            return STATE;
        }
        keepAhead();
        int went = 0;
        while (went < n && oneGoes()) {
            went++;
        }
        return went;
    }

    // ---- asked

    public long kind(int good) {
        return now.isGood(good) ? kindOf(good) : BAD;
    }

    public long as(int good, int kind) {
        if (!now.isGood(good) || kind < 0 || kind > DEAR) {
            return BAD;
        }
        return isOfKind(good, kind) ? fine(good) : found(KIND);
    }

    public long ask(int good, int what) {
        if (!now.isGood(good) || what < 0 || what > 1) {
            return BAD;
        }
        bodies.empty();
        return what == 0 ? sizeOf(good, 0) : markOf(good, 0);
    }

    public int trace(int i) {
        return bodies.at(i);
    }

    public long count(int what) {
        switch (what) {
            case 0:
                return rows.present();
            case 1:
                return now.lands;
            case 2:
                return now.goods;
            case 3:
                return now.allHands();
            case 4:
                return commonGoods();
            case 5:
                return tape.length;
            default:
                return BAD;
        }
    }

    public int status() {
        return latestFinding;
    }

    // ---- within

    private long found(int finding) {
        latestFinding = finding;
        return NOT - 10 - finding;
    }

    private long fine(long answer) {
        latestFinding = 0;
        return answer;
    }

    /** What is found where n items of a row from i on are wanted; 0: they are there. */
    private int findingAt(int row, int i, int n) {
        if (rows.isMissing(row)) {
            return NULL;
        }
        return rows.has(row, i, n) ? 0 : PLACE;
    }

    private void keepAhead() {
        ahead.take(now);
        hasAhead = true;
    }

    /** A fraction in lowest terms: what = 0 its number above, else that below. */
    private static long part(long above, long below, int what) {
        long common = commonDivisor(above, below);
        long asked = what == 0 ? above : below;
        return common > 1 ? asked / common : asked;
    }

    private static long commonDivisor(long a, long b) {
        long x = a;
        long y = b;
        // Each two rounds halve the greater one, so a long is spent in fewer than 200.
        for (int round = 0; round < 200 && y != 0; round++) {
            long left = x % y;
            x = y;
            y = left;
        }
        return x;
    }

    private long leastRing() {
        for (int n = 0; n < RINGS.length; n++) {
            if (makesMore(RINGS[n])) {
                return RINGS[n];
            }
        }
        return 0;
    }

    private boolean makesMore(int ring) {
        int length = ring < 64 ? 2 : 3;
        long above = 1;
        long below = 1;
        for (int step = 0; step < length; step++) {
            int giver = landOfRing(ring, step);
            int next = landOfRing(ring, step + 1 < length ? step + 1 : 0);
            if (!now.isLand(giver) || !now.isLand(next)) {
                return false;
            }
            int good = bestGift(giver, next);
            if (good < 0) {
                return false;
            }
            above *= now.hours[next][good];
            below *= now.hours[giver][good];
        }
        return above < below;
    }

    private static int landOfRing(int ring, int step) {
        return ((ring >> (3 * step)) & 7) - 1;
    }

    /** Of the goods that giver makes by the spread the one that next makes best beside it; -1: giver makes none. */
    private int bestGift(int giver, int next) {
        int best = -1;
        for (int good = 0; good < now.goods; good++) {
            if (((spread[good] >> giver) & 1) == 0) {
                continue;
            }
            if (best < 0 || now.hours[next][good] * now.hours[giver][best]
                    < now.hours[next][best] * now.hours[giver][good]) {
                best = good;
            }
        }
        return best;
    }

    private boolean makersChange(int land, int good, int by) {
        int hours = now.hours[land][good] + by;
        if (hours < 1 || hours > MOST_HOURS) {
            return false;
        }
        trial.take(now);
        trial.hours[land][good] = hours;
        rest.settle(trial);
        return trial.makersBy(trial.wages, good) != now.makersBy(now.wages, good);
    }

    private boolean oneGoes() {
        int from = 0;
        int to = 0;
        for (int land = 1; land < now.lands; land++) {
            if (now.wages[land] < now.wages[from]) {
                from = land;
            }
            if (now.wages[land] > now.wages[to]) {
                to = land;
            }
        }
        if (from == to || now.hands[from] < 2 || now.hands[to] >= MOST_HANDS) {
            return false;
        }
        trial.take(now);
        trial.hands[from]--;
        trial.hands[to]++;
        rest.settle(trial);
        if (trial.wages[to] < trial.wages[from]) {
            return false;
        }
        now.take(trial);
        return true;
    }

    private int kindOf(int good) {
        for (int kind = DEAR; kind > 0; kind--) {
            if (isOfKind(good, kind)) {
                return kind;
            }
        }
        return 0;
    }

    private boolean isOfKind(int good, int kind) {
        int makers = now.makersBy(now.wages, good);
        switch (kind) {
            case ALONE:
                return Integer.bitCount(makers) == 1;
            case COMMON:
                return Integer.bitCount(makers) > 1;
            case EVERY:
                return Integer.bitCount(makers) > 1 && makers == now.allLands();
            case HOME:
                return makers == 1;
            case DEAR:
                return makers == 1 && now.leastCost(now.wages, good) >= DEAR_FROM * now.wages[0];
            default:
                return true;
        }
    }

    private long commonGoods() {
        int common = 0;
        for (int good = 0; good < now.goods; good++) {
            if (isOfKind(good, COMMON)) {
                common++;
            }
        }
        return common;
    }

    private long sizeOf(int good, int depth) {
        return body(SIZE_BODIES[kindOf(good)], good, depth + 1);
    }

    private long markOf(int good, int depth) {
        return body(MARK_BODIES[kindOf(good)], good, depth + 1);
    }

    private long body(int number, int good, int depth) {
        if (depth > DEEPEST_BODY) {
            return 0;
        }
        bodies.add(number);
        switch (number) {
            case 10:
                return now.shares[good];
            case 11:
                return body(10, good, depth + 1) + markOf(good, depth + 1);
            case 12:
                return body(10, good, depth + 1) * Integer.bitCount(now.makersBy(now.wages, good));
            case 13:
                return body(12, good, depth + 1) - 1;
            case 14:
                return body(11, good, depth + 1) * 2;
            case 15:
                return body(14, good, depth + 1) - markOf(good, depth + 1);
            case 20:
                return good;
            case 21:
                return body(20, good, depth + 1) + 10 * now.firstMaker(good);
            case 22:
                return body(20, good, depth + 1) + sizeOf(good, depth + 1);
            case 23:
                return body(21, good, depth + 1) + 100;
            default:
                return 0;
        }
    }

    /** The rows; each keeps one array for all its life, so that a run of calls makes no new ones. */
    private static final class Rows {
        static final int MOST_ROWS = 8;
        static final int MOST_ITEMS = 40;
        static final int MISSING = -1;

        final int[][] items;
        final int[] lanes;
        final int[] sizes;

        Rows() {
            items = new int[MOST_ROWS][MOST_ITEMS];
            lanes = new int[MOST_ROWS];
            sizes = new int[MOST_ROWS];
            for (int row = 0; row < MOST_ROWS; row++) {
                sizes[row] = MISSING;
            }
        }

        static boolean isRow(int row) {
            return row >= 0 && row < MOST_ROWS;
        }

        static boolean isLane(int lane) {
            return lane >= 0 && lane <= 2;
        }

        boolean isMissing(int row) {
            return sizes[row] == MISSING;
        }

        boolean sameLane(int a, int b) {
            return lanes[a] == lanes[b];
        }

        /** Whether n items from i on are all there; told without i + n, which could wrap. */
        boolean has(int row, int i, int n) {
            return i >= 0 && n >= 0 && n <= sizes[row] && i <= sizes[row] - n;
        }

        int item(int row, int i) {
            return items[row][i];
        }

        void make(int row, int lane, int n) {
            lanes[row] = lane;
            sizes[row] = n;
            for (int i = 0; i < n; i++) {
                items[row][i] = 0;
            }
        }

        int put(int row, int i, int v) {
            int kept = v;
            if (lanes[row] == 0) {
                kept = (byte) v;
            } else if (lanes[row] == 1) {
                kept = (short) v;
            }
            items[row][i] = kept;
            return kept;
        }

        void carry(int a, int i, int b, int j, int n) {
            System.arraycopy(items[a], i, items[b], j, n);
        }

        int remove(int row) {
            int had = sizes[row];
            sizes[row] = MISSING;
            return had;
        }

        int present() {
            int there = 0;
            for (int row = 0; row < MOST_ROWS; row++) {
                if (sizes[row] != MISSING) {
                    there++;
                }
            }
            return there;
        }
    }

    /** The bodies that began in the latest ask, the first of them. */
    private static final class Trace {
        static final int MOST_NUMBERS = 16;

        final int[] numbers;
        int length;

        Trace() {
            numbers = new int[MOST_NUMBERS];
            length = 0;
        }

        void empty() {
            length = 0;
        }

        void add(int number) {
            if (length < MOST_NUMBERS) {
                numbers[length] = number;
                length++;
            }
        }

        int at(int i) {
            return i >= 0 && i < length ? numbers[i] : NONE;
        }
    }

    /** The tape, and how a world is read from it. */
    private static final class Tape {
        static final int MOST_BYTES = 400;

        static final int CANNOT_STAND = 1;
        static final int NOT_AS_TOLD = 2;
        static final int NO_ROOM = 3;

        static final int END = 0;
        static final int GOOD_WORD = 1;
        static final int LAND_WORD = 2;
        static final int NUMBER = 3;
        static final int SEMICOLON = 4;
        static final int OTHER = 5;

        final byte[] bytes;
        int length;
        int faultNumber;
        int faultPlace;
        private int start;
        private int behind;
        private int token;
        private int value;

        Tape() {
            bytes = new byte[MOST_BYTES];
            length = 0;
            faultNumber = 0;
            faultPlace = 0;
            start = 0;
            behind = 0;
            token = END;
            value = 0;
        }

        boolean hasRoom(int n) {
            return length + n <= MOST_BYTES;
        }

        int append(long w, int n) {
            for (int k = n - 1; k >= 0 && length < MOST_BYTES; k--) {
                bytes[length] = (byte) (w >>> (8 * k));
                length++;
            }
            return length;
        }

        void empty() {
            length = 0;
        }

        /** Reads the text; false: there is a fault, and the draft is of no use. */
        boolean readInto(World draft) {
            draft.goods = 0;
            draft.lands = 0;
            behind = 0;
            step();
            boolean fits = readGood(draft);
            for (int n = 0; n < MOST_GOODS && fits && token == GOOD_WORD; n++) {
                fits = readGood(draft);
            }
            fits = fits && readLand(draft);
            for (int n = 0; n < MOST_LANDS && fits && token == LAND_WORD; n++) {
                fits = readLand(draft);
            }
            return fits && (token == END || blame(CANNOT_STAND));
        }

        private boolean readGood(World draft) {
            if (token != GOOD_WORD) {
                return blame(CANNOT_STAND);
            }
            if (draft.goods >= MOST_GOODS) {
                return blame(NO_ROOM);
            }
            step();
            if (!isNumberUpTo(MOST_SHARE)) {
                return false;
            }
            draft.shares[draft.goods] = value;
            draft.goods++;
            step();
            return passSemicolon();
        }

        private boolean readLand(World draft) {
            if (token != LAND_WORD) {
                return blame(CANNOT_STAND);
            }
            if (draft.lands >= MOST_LANDS) {
                return blame(NO_ROOM);
            }
            step();
            if (!isNumberUpTo(MOST_HANDS)) {
                return false;
            }
            draft.hands[draft.lands] = value;
            step();
            for (int good = 0; good < draft.goods; good++) {
                if (!isNumberUpTo(MOST_HOURS)) {
                    return false;
                }
                draft.hours[draft.lands][good] = value;
                step();
            }
            draft.lands++;
            return passSemicolon();
        }

        private boolean passSemicolon() {
            if (token != SEMICOLON) {
                return blame(CANNOT_STAND);
            }
            step();
            return true;
        }

        private boolean isNumberUpTo(int most) {
            if (token != NUMBER) {
                return blame(CANNOT_STAND);
            }
            return (value >= 1 && value <= most) || blame(NOT_AS_TOLD);
        }

        /** Always false, so that a reader can end with it. */
        private boolean blame(int number) {
            faultNumber = number;
            faultPlace = start;
            return false;
        }

        private void step() {
            start = behind;
            while (start < length && (bytes[start] == ' ' || bytes[start] == '\n')) {
                start++;
            }
            behind = start;
            if (start >= length) {
                token = END;
            } else if (isLetter(bytes[start])) {
                takeName();
            } else if (isFigure(bytes[start])) {
                takeNumber();
            } else {
                token = bytes[start] == ';' ? SEMICOLON : OTHER;
                behind = start + 1;
            }
        }

        private void takeName() {
            while (behind < length && isLetter(bytes[behind])) {
                behind++;
            }
            token = OTHER;
            if (isWord("good")) {
                token = GOOD_WORD;
            } else if (isWord("land")) {
                token = LAND_WORD;
            }
        }

        private boolean isWord(String word) {
            if (behind - start != word.length()) {
                return false;
            }
            for (int i = 0; i < word.length(); i++) {
                if (bytes[start + i] != word.charAt(i)) {
                    return false;
                }
            }
            return true;
        }

        /** More than two figures in a row are no token at all, not two of them. */
        private void takeNumber() {
            value = 0;
            while (behind < length && isFigure(bytes[behind])) {
                if (behind - start < 2) {
                    value = value * 10 + (bytes[behind] - '0');
                }
                behind++;
            }
            token = behind - start <= 2 ? NUMBER : OTHER;
        }

        private static boolean isLetter(byte b) {
            return b >= 'a' && b <= 'z';
        }

        private static boolean isFigure(byte b) {
            return b >= '0' && b <= '9';
        }
    }

    /** Lands, goods and, once settled, wages at rest as whole numbers: only how they are to one another counts. */
    private static final class World {
        int lands;
        int goods;
        final int[] shares;
        final int[] hands;
        final int[][] hours;
        final long[] wages;
        private final int[] makers;

        World() {
            lands = 0;
            goods = 0;
            shares = new int[MOST_GOODS];
            hands = new int[MOST_LANDS];
            hours = new int[MOST_LANDS][MOST_GOODS];
            wages = new long[MOST_LANDS];
            makers = new int[MOST_GOODS];
        }

        void take(World other) {
            lands = other.lands;
            goods = other.goods;
            System.arraycopy(other.shares, 0, shares, 0, MOST_GOODS);
            System.arraycopy(other.hands, 0, hands, 0, MOST_LANDS);
            System.arraycopy(other.wages, 0, wages, 0, MOST_LANDS);
            for (int land = 0; land < MOST_LANDS; land++) {
                System.arraycopy(other.hours[land], 0, hours[land], 0, MOST_GOODS);
            }
        }

        boolean isThere() {
            return lands > 0;
        }

        boolean isLand(int land) {
            return land >= 0 && land < lands;
        }

        boolean isGood(int good) {
            return good >= 0 && good < goods;
        }

        int allLands() {
            return (1 << lands) - 1;
        }

        int allHands() {
            int all = 0;
            for (int land = 0; land < lands; land++) {
                all += hands[land];
            }
            return all;
        }

        int allShares() {
            int all = 0;
            for (int good = 0; good < goods; good++) {
                all += shares[good];
            }
            return all;
        }

        long cost(long[] by, int land, int good) {
            return by[land] * hours[land][good];
        }

        long leastCost(long[] by, int good) {
            long least = cost(by, 0, good);
            for (int land = 1; land < lands; land++) {
                least = Math.min(least, cost(by, land, good));
            }
            return least;
        }

        int makersBy(long[] by, int good) {
            long least = cost(by, 0, good);
            int bits = 1;
            for (int land = 1; land < lands; land++) {
                long here = cost(by, land, good);
                if (here < least) {
                    least = here;
                    bits = 0;
                }
                if (here == least) {
                    bits |= 1 << land;
                }
            }
            return bits;
        }

        int firstMaker(int good) {
            int first = 0;
            for (int land = 1; land < lands; land++) {
                if (cost(wages, land, good) < cost(wages, first, good)) {
                    first = land;
                }
            }
            return first;
        }

        /** The least set of lands whose incomes are more than what all its goods get; 0: at rest. */
        int idleBy(long[] by) {
            for (int good = 0; good < goods; good++) {
                makers[good] = makersBy(by, good);
            }
            long all = allShares();
            long everything = incomeOf(by, allLands());
            for (int lot = 1; lot <= allLands(); lot++) {
                if (incomeOf(by, lot) * all > everything * sharesFor(lot)) {
                    return lot;
                }
            }
            return 0;
        }

        private long incomeOf(long[] by, int lot) {
            long income = 0;
            for (int land = 0; land < lands; land++) {
                if (((lot >> land) & 1) != 0) {
                    income += hands[land] * by[land];
                }
            }
            return income;
        }

        private long sharesFor(int lot) {
            long sum = 0;
            for (int good = 0; good < goods; good++) {
                if ((makers[good] & lot) != 0) {
                    sum += shares[good];
                }
            }
            return sum;
        }
    }

    /** Two lands as if there were no other; either may stand for two lands that are tied to one another. */
    private static final class Pair {
        int goods;
        final int[] shares;
        final long[] firstHours;
        final long[] secondHours;
        final int[] order;
        long firstHands;
        long secondHands;
        long firstWage;
        long secondWage;

        Pair() {
            goods = 0;
            shares = new int[MOST_GOODS];
            firstHours = new long[MOST_GOODS];
            secondHours = new long[MOST_GOODS];
            order = new int[MOST_GOODS];
            firstHands = 1;
            secondHands = 1;
            firstWage = 1;
            secondWage = 1;
        }

        void layTwo(World of, int a, int b) {
            goods = of.goods;
            firstHands = of.hands[a];
            secondHands = of.hands[b];
            for (int good = 0; good < goods; good++) {
                shares[good] = of.shares[good];
                firstHours[good] = of.hours[a][good];
                secondHours[good] = of.hours[b][good];
            }
        }

        /** Lands a and b, whose wages are to one another as wageA to wageB, as one land beside c. */
        void layTied(World of, int a, long wageA, int b, long wageB, int c) {
            goods = of.goods;
            firstHands = of.hands[a] * wageA + of.hands[b] * wageB;
            secondHands = of.hands[c];
            for (int good = 0; good < goods; good++) {
                shares[good] = of.shares[good];
                firstHours[good] = Math.min(of.hours[a][good] * wageA, of.hours[b][good] * wageB);
                secondHours[good] = of.hours[c][good];
            }
        }

        /** The chain; goods come in by their numbers, so alike ones stay so. */
        void sort() {
            for (int good = 0; good < goods; good++) {
                int at = good;
                while (at > 0 && firstHours[order[at - 1]] * secondHours[good]
                        > firstHours[good] * secondHours[order[at - 1]]) {
                    order[at] = order[at - 1];
                    at--;
                }
                order[at] = good;
            }
        }

        /**
         * Goes along the chain, the wage of the first land falling, until its income is no more than what the goods
         * up to there pay. Wants the chain sorted.
         */
        void settleTwo() {
            long all = allShares();
            long paid = 0;
            for (int at = 0; at < goods; at++) {
                int good = order[at];
                long mine = firstHands * secondHours[good];
                long income = mine + secondHands * firstHours[good];
                if (mine * all < paid * income) {
                    break;
                }
                if (mine * all <= (paid + shares[good]) * income) {
                    firstWage = secondHours[good];
                    secondWage = firstHours[good];
                    return;
                }
                paid += shares[good];
            }
            firstWage = paid * secondHands;
            secondWage = (all - paid) * firstHands;
        }

        int cut() {
            int alone = 0;
            int both = 0;
            for (int good = 0; good < goods; good++) {
                long first = firstHours[good] * firstWage;
                long second = secondHours[good] * secondWage;
                if (first < second) {
                    alone++;
                } else if (first == second) {
                    both = 1;
                }
            }
            return 2 * alone + both;
        }

        private long allShares() {
            long all = 0;
            for (int good = 0; good < goods; good++) {
                all += shares[good];
            }
            return all;
        }
    }

    /**
     * Finds wages at rest. They are where a convex function of the wages' logarithms is least. With three lands, for a
     * good that two of them could make alike, the least along that line is a matter of two lands (these two as one,
     * and the third); if that is not at rest, its idle set tells on which side of the line wages at rest are.
     */
    private static final class Rest {
        private final Pair couple;
        private final Pair tied;
        private final int[][] wins;

        Rest() {
            couple = new Pair();
            tied = new Pair();
            wins = new int[MOST_LANDS][MOST_GOODS];
        }

        void settle(World of) {
            if (of.lands == 1) {
                of.wages[0] = 1;
            } else if (of.lands == 2) {
                couple.layTwo(of, 0, 1);
                couple.sort();
                couple.settleTwo();
                of.wages[0] = couple.firstWage;
                of.wages[1] = couple.secondWage;
            } else if (of.lands == 3) {
                clearWins();
                if (!findTied(of, 0, 1) && !findTied(of, 0, 2) && !findTied(of, 1, 2)) {
                    settleApart(of);
                }
            }
            shorten(of);
        }

        private void clearWins() {
            for (int land = 0; land < MOST_LANDS; land++) {
                for (int good = 0; good < MOST_GOODS; good++) {
                    wins[land][good] = 0;
                }
            }
        }

        /**
         * Whether wages at rest have a and b make some good alike: then they are set. Else it is counted for each
         * good which of the two is the better one.
         */
        private boolean findTied(World of, int a, int b) {
            couple.layTwo(of, a, b);
            couple.sort();
            int low = 0;
            int high = of.goods;
            for (int round = 0; round < MOST_GOODS && low < high; round++) {
                int middle = (low + high) >> 1;
                tie(of, a, b, couple.order[middle]);
                int idle = of.idleBy(of.wages);
                if (idle == 0) {
                    return true;
                }
                if (((idle >> a) & 1) != 0) {
                    low = middle + 1;
                } else {
                    high = middle;
                }
            }
            for (int at = 0; at < of.goods; at++) {
                wins[at < low ? a : b][couple.order[at]]++;
            }
            return false;
        }

        private void tie(World of, int a, int b, int good) {
            int c = MOST_LANDS - a - b;
            long wageA = of.hours[b][good];
            long wageB = of.hours[a][good];
            tied.layTied(of, a, wageA, b, wageB, c);
            tied.sort();
            tied.settleTwo();
            of.wages[a] = wageA * tied.firstWage;
            of.wages[b] = wageB * tied.firstWage;
            of.wages[c] = tied.secondWage;
        }

        /** No good has two makers: each land's income is just what its own goods get. */
        private void settleApart(World of) {
            long all = (long) of.hands[0] * of.hands[1] * of.hands[2];
            for (int land = 0; land < MOST_LANDS; land++) {
                long paid = 0;
                for (int good = 0; good < of.goods; good++) {
                    if (wins[land][good] == 2) {
                        paid += of.shares[good];
                    }
                }
                if (of.hands[land] > 0) {
                    of.wages[land] = paid * (all / of.hands[land]);
                }
            }
        }

        private static void shorten(World of) {
            long common = 0;
            for (int land = 0; land < of.lands; land++) {
                common = commonDivisor(of.wages[land], common);
            }
            for (int land = 0; land < of.lands && common > 1; land++) {
                of.wages[land] /= common;
            }
        }
    }
}
