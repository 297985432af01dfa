import java.util.ArrayList;
import java.util.Arrays;
import java.util.List;

/**
 * The document once more, written as slowly and plainly as can be, to hold LandGoods against. Wages at rest are found by
 * trying every way in which lands can be tied to one another and goods can be spread.
 */
final class Model {
    static final long NOT = -9000000000000000000L;
    static final int NONE = -1000000;
    static final long BAD = NOT - 1;
    static final long STATE = NOT - 2;
    static final long FULL = NOT - 3;

    static final class W {
        int[] share;
        int[] hands;
        int[][] hours;
        long[] wages;

        W with() {
            W w = new W();
            w.share = share.clone();
            w.hands = hands.clone();
            w.hours = new int[hours.length][];
            for (int i = 0; i < hours.length; i++) {
                w.hours[i] = hours[i].clone();
            }
            return w;
        }

        int lands() {
            return hands.length;
        }

        int goods() {
            return share.length;
        }

        long[] rest() {
            if (wages == null) {
                wages = findRest(this);
            }
            return wages;
        }

        long price(int g) {
            return priceBy(this, rest(), g);
        }

        int makers(int g) {
            return makersBy(this, rest(), g);
        }
    }

    private final int[][] rows = new int[8][];
    private final int[] lanes = new int[8];
    private StringBuilder tape = new StringBuilder();
    private W world;
    private W ahead;
    private int fault;
    private int status;
    private final List<Integer> trace = new ArrayList<>();

    // ---- wages

    static long priceBy(W w, long[] wages, int g) {
        long p = Long.MAX_VALUE;
        for (int l = 0; l < w.lands(); l++) {
            p = Math.min(p, wages[l] * w.hours[l][g]);
        }
        return p;
    }

    static int makersBy(W w, long[] wages, int g) {
        int bits = 0;
        for (int l = 0; l < w.lands(); l++) {
            if (wages[l] * w.hours[l][g] == priceBy(w, wages, g)) {
                bits += 1 << l;
            }
        }
        return bits;
    }

    /** Whether each good's coin finds lands to go to: the other side of the cut than the document's IDLE. */
    static boolean atRest(W w, long[] wages) {
        long all = 0;
        for (int l = 0; l < w.lands(); l++) {
            all += w.hands[l] * wages[l];
        }
        long shares = Arrays.stream(w.share).sum();
        int[] makers = new int[w.goods()];
        for (int g = 0; g < makers.length; g++) {
            makers[g] = makersBy(w, wages, g);
        }
        for (int set = 1; set < 1 << w.goods(); set++) {
            long spent = 0;
            int reach = 0;
            for (int g = 0; g < w.goods(); g++) {
                if ((set >> g & 1) == 1) {
                    spent += w.share[g];
                    reach |= makers[g];
                }
            }
            long income = 0;
            for (int l = 0; l < w.lands(); l++) {
                if ((reach >> l & 1) == 1) {
                    income += w.hands[l] * wages[l];
                }
            }
            if (spent * all > income * shares) {
                return false;
            }
        }
        return true;
    }

    static long[] findRest(W w) {
        List<int[]> links = new ArrayList<>();
        for (int a = 0; a < w.lands(); a++) {
            for (int b = a + 1; b < w.lands(); b++) {
                for (int g = 0; g < w.goods(); g++) {
                    links.add(new int[] {a, b, g});
                }
            }
        }
        long[] found = spreadOver(w, new ArrayList<>());
        for (int i = 0; i < links.size() && found == null; i++) {
            found = spreadOver(w, List.of(links.get(i)));
        }
        for (int i = 0; i < links.size() && found == null; i++) {
            for (int j = i + 1; j < links.size() && found == null; j++) {
                if (links.get(i)[0] != links.get(j)[0] || links.get(i)[1] != links.get(j)[1]) {
                    found = spreadOver(w, List.of(links.get(i), links.get(j)));
                }
            }
        }
        if (found == null) {
            throw new IllegalStateException("no wages at rest");
        }
        return found;
    }

    /** Lands that are linked are one group, with wages tied; tries every spread of goods over groups. */
    private static long[] spreadOver(W w, List<int[]> links) {
        int n = w.lands();
        int[] group = new int[n];
        long[] wages = new long[n];
        for (int l = 0; l < n; l++) {
            group[l] = l;
            wages[l] = 1;
        }
        for (int[] link : links) {
            int a = link[0];
            int b = link[1];
            long up = wages[a] * w.hours[a][link[2]];
            long down = wages[b] * w.hours[b][link[2]];
            int ga = group[a];
            int gb = group[b];
            for (int l = 0; l < n; l++) {
                if (group[l] == ga) {
                    wages[l] *= down;
                } else if (group[l] == gb) {
                    wages[l] *= up;
                    group[l] = ga;
                }
            }
        }
        int[] names = Arrays.stream(group).distinct().toArray();
        int ways = (int) Math.round(Math.pow(names.length, w.goods()));
        for (int way = 0; way < ways; way++) {
            long[] got = scaled(w, group, names, wages, way);
            if (got != null && atRest(w, got)) {
                return got;
            }
        }
        return null;
    }

    private static long[] scaled(W w, int[] group, int[] names, long[] wages, int way) {
        long[] paid = new long[names.length];
        for (int g = 0, left = way; g < w.goods(); g++, left /= names.length) {
            paid[left % names.length] += w.share[g];
        }
        long[] income = new long[names.length];
        for (int k = 0; k < names.length; k++) {
            for (int l = 0; l < w.lands(); l++) {
                income[k] += group[l] == names[k] ? w.hands[l] * wages[l] : 0;
            }
        }
        long[] got = new long[w.lands()];
        long common = 0;
        for (int k = 0; k < names.length; k++) {
            long factor = paid[k];
            for (int m = 0; m < names.length; m++) {
                factor *= m == k ? 1 : income[m];
            }
            if (factor == 0) {
                return null;
            }
            for (int l = 0; l < w.lands(); l++) {
                if (group[l] == names[k]) {
                    got[l] = wages[l] * factor;
                    common = gcd(got[l], common);
                }
            }
        }
        for (int l = 0; l < got.length; l++) {
            got[l] /= common;
        }
        return got;
    }

    static long gcd(long a, long b) {
        return b == 0 ? a : gcd(b, a % b);
    }

    private static long frac(long above, long below, int what) {
        return (what == 0 ? above : below) / gcd(above, below);
    }

    // ---- rows

    private long finding(int number) {
        status = number;
        return NOT - 10 - number;
    }

    private long fine(long v) {
        status = 0;
        return v;
    }

    private static boolean noRow(int r) {
        return r < 0 || r > 7;
    }

    long row(int row, int lane, int n) {
        if (noRow(row) || lane < 0 || lane > 2 || n > 40) {
            return BAD;
        }
        if (n < 0) {
            return finding(4);
        }
        rows[row] = new int[n];
        lanes[row] = lane;
        return fine(n);
    }

    long set(int row, int i, int v) {
        if (noRow(row)) {
            return BAD;
        }
        if (rows[row] == null) {
            return finding(1);
        }
        if (i < 0 || i >= rows[row].length) {
            return finding(2);
        }
        int shift = new int[] {24, 16, 0}[lanes[row]];
        rows[row][i] = v << shift >> shift;
        return fine(rows[row][i]);
    }

    long copy(int a, int i, int b, int j, int n) {
        if (noRow(a) || noRow(b)) {
            return BAD;
        }
        if (rows[a] == null || rows[b] == null) {
            return finding(1);
        }
        if (lanes[a] != lanes[b]) {
            return finding(5);
        }
        if (i < 0 || j < 0 || n < 0 || (long) i + n > rows[a].length || (long) j + n > rows[b].length) {
            return finding(2);
        }
        int[] old = rows[a].clone();
        for (int k = 0; k < n; k++) {
            rows[b][j + k] = old[i + k];
        }
        return fine(n);
    }

    long drop(int row) {
        if (noRow(row)) {
            return BAD;
        }
        if (rows[row] == null) {
            return finding(1);
        }
        int n = rows[row].length;
        rows[row] = null;
        return fine(n);
    }

    // ---- worlds

    long feed(long w, int n) {
        if (n < 1 || n > 8) {
            return BAD;
        }
        if (tape.length() + n > 400) {
            return FULL;
        }
        for (int k = n - 1; k >= 0; k--) {
            tape.append((char) (w >> 8 * k & 255));
        }
        return tape.length();
    }

    /** A token: its text and place; the end has an empty text. */
    private record Token(String text, int place) { }

    private static List<Token> tokens(String text) {
        List<Token> all = new ArrayList<>();
        java.util.regex.Matcher m =
                java.util.regex.Pattern.compile("[a-z]+|[0-9]+|[^a-z0-9 \n]", java.util.regex.Pattern.DOTALL).matcher(text);
        while (m.find()) {
            all.add(new Token(m.group(), m.start()));
        }
        all.add(new Token("", text.length()));
        return all;
    }

    long world() {
        String text = tape.toString();
        tape = new StringBuilder();
        List<Integer> shares = new ArrayList<>();
        List<List<Integer>> lands = new ArrayList<>();
        String await = "good";
        for (Token t : tokens(text)) {
            int bad = 0;
            switch (await) {
                case "good", "good land", "land end" -> {
                    if (t.text.equals("good") && await.contains("good")) {
                        bad = shares.size() == 6 ? 3 : 0;
                        await = "share";
                    } else if (t.text.equals("land") && await.contains("land")) {
                        bad = lands.size() == 3 ? 3 : 0;
                        lands.add(new ArrayList<>());
                        await = "number";
                    } else {
                        bad = t.text.isEmpty() && await.contains("end") ? 0 : 1;
                    }
                }
                case "share" -> {
                    bad = numberFault(t.text, 20);
                    if (bad == 0) {
                        shares.add(Integer.parseInt(t.text));
                        await = "; good";
                    }
                }
                case "number" -> {
                    List<Integer> land = lands.get(lands.size() - 1);
                    bad = numberFault(t.text, land.isEmpty() ? 99 : 20);
                    if (bad == 0) {
                        land.add(Integer.parseInt(t.text));
                        await = land.size() == shares.size() + 1 ? "; land" : "number";
                    }
                }
                default -> {
                    bad = t.text.equals(";") ? 0 : 1;
                    await = await.equals("; good") ? "good land" : "land end";
                }
            }
            if (bad != 0) {
                fault = bad;
                return NOT - 100 - t.place;
            }
        }
        W w = new W();
        w.share = shares.stream().mapToInt(v -> v).toArray();
        w.hands = lands.stream().mapToInt(l -> l.get(0)).toArray();
        w.hours = new int[lands.size()][];
        for (int l = 0; l < lands.size(); l++) {
            w.hours[l] = lands.get(l).subList(1, lands.get(l).size()).stream().mapToInt(v -> v).toArray();
        }
        world = w;
        ahead = null;
        return w.lands();
    }

    private static int numberFault(String text, int most) {
        if (!text.matches("[0-9]{1,2}")) {
            return 1;
        }
        int v = Integer.parseInt(text);
        return v < 1 || v > most ? 2 : 0;
    }

    int fault() {
        return fault;
    }

    private boolean noLand(int l) {
        return world == null || l < 0 || l >= world.lands();
    }

    private boolean noGood(int g) {
        return world == null || g < 0 || g >= world.goods();
    }

    long told(int land, int good, int what) {
        if (noLand(land) || noGood(good) || what < 0 || what > 2) {
            return BAD;
        }
        return what == 0 ? world.hours[land][good] : what == 1 ? world.hands[land] : world.share[good];
    }

    // ---- at rest

    long wage(int land, int what) {
        if (noLand(land) || what < 0 || what > 1) {
            return BAD;
        }
        return frac(world.rest()[land], world.rest()[0], what);
    }

    long price(int good, int what) {
        if (noGood(good) || what < 0 || what > 2) {
            return BAD;
        }
        return what == 2 ? world.makers(good) : frac(world.price(good), world.rest()[0], what);
    }

    long gain(int land, int good, int what) {
        if (noLand(land) || noGood(good) || what < 0 || what > 1) {
            return BAD;
        }
        return frac(world.rest()[land] * world.hours[land][good], world.price(good), what);
    }

    private long rowTrouble(int row, int i, int n) {
        if (noRow(row)) {
            return BAD;
        }
        if (world == null) {
            return STATE;
        }
        if (rows[row] == null) {
            return finding(1);
        }
        return i < 0 || (long) i + n > rows[row].length ? finding(2) : 0;
    }

    long judge(int row, int i) {
        long trouble = rowTrouble(row, i, world == null ? 0 : world.lands());
        if (trouble != 0) {
            return trouble;
        }
        int n = world.lands();
        long[] wages = new long[n];
        for (int l = 0; l < n; l++) {
            wages[l] = rows[row][i + l];
            if (wages[l] < 1 || wages[l] > 999) {
                return BAD;
            }
        }
        long all = 0;
        for (int l = 0; l < n; l++) {
            all += wages[l] * world.hands[l];
        }
        long shares = Arrays.stream(world.share).sum();
        for (int set = 1; set < 1 << n; set++) {
            long income = 0;
            for (int l = 0; l < n; l++) {
                income += (set >> l & 1) * wages[l] * world.hands[l];
            }
            long gets = 0;
            for (int g = 0; g < world.goods(); g++) {
                gets += (makersBy(world, wages, g) & set) != 0 ? world.share[g] : 0;
            }
            if (income * shares > gets * all) {
                return fine(set);
            }
        }
        return fine(0);
    }

    // ---- lands beside lands

    long chain(int a, int b, int i) {
        if (noLand(a) || noLand(b) || a == b || i < -1) {
            return BAD;
        }
        if (i >= world.goods()) {
            return NONE;
        }
        if (i >= 0) {
            List<Integer> goods = new ArrayList<>();
            for (int g = 0; g < world.goods(); g++) {
                goods.add(g);
            }
            goods.sort((g, h) -> world.hours[a][g] * world.hours[b][h] - world.hours[a][h] * world.hours[b][g]);
            return goods.get(i);
        }
        W two = new W();
        two.share = world.share;
        two.hands = new int[] {world.hands[a], world.hands[b]};
        two.hours = new int[][] {world.hours[a], world.hours[b]};
        int alone = 0;
        int both = 0;
        for (int g = 0; g < two.goods(); g++) {
            alone += two.makers(g) == 1 ? 1 : 0;
            both |= two.makers(g) == 3 ? 1 : 0;
        }
        return 2 * alone + both;
    }

    long more(int row, int i) {
        long trouble = rowTrouble(row, i, world == null ? 0 : world.goods());
        if (trouble != 0) {
            return trouble;
        }
        int[] spread = new int[world.goods()];
        for (int g = 0; g < spread.length; g++) {
            spread[g] = rows[row][i + g];
            if (spread[g] < 1 || spread[g] >= 1 << world.lands()) {
                return BAD;
            }
        }
        long least = 0;
        for (int a = 0; a < world.lands(); a++) {
            for (int b = a + 1; b < world.lands(); b++) {
                if (ring(spread, a, b)) {
                    least = lesser(least, a + 1 + 8 * (b + 1));
                }
            }
            for (int b = a + 1; b < world.lands(); b++) {
                for (int c = a + 1; c < world.lands(); c++) {
                    if (b != c && ring(spread, a, b, c)) {
                        least = lesser(least, a + 1 + 8 * (b + 1) + 64 * (c + 1));
                    }
                }
            }
        }
        return fine(least);
    }

    private static long lesser(long a, long b) {
        return a == 0 ? b : Math.min(a, b);
    }

    /** Tries every row of goods, one for each giver. */
    private boolean ring(int[] spread, int... lands) {
        int goods = world.goods();
        for (int way = 0; way < Math.round(Math.pow(goods, lands.length)); way++) {
            long up = 1;
            long down = 1;
            int left = way;
            for (int k = 0; k < lands.length; k++, left /= goods) {
                int g = left % goods;
                int to = lands[(k + 1) % lands.length];
                if ((spread[g] >> lands[k] & 1) == 0) {
                    up = 100000000;
                }
                up *= world.hours[to][g];
                down *= world.hours[lands[k]][g];
            }
            if (up < down) {
                return true;
            }
        }
        return false;
    }

    long stays(int land, int good, int f) {
        if (noLand(land) || noGood(good) || f < 0 || f > 900) {
            return BAD;
        }
        return 100 * world.hours[land][good] * world.rest()[land] <= world.price(good) * (100 + f) ? 1 : 0;
    }

    long learn(int land, int by, int good) {
        if (noLand(land) || noLand(by) || noGood(good) || land == by) {
            return BAD;
        }
        ahead = world;
        world = world.with();
        world.hours[land][good] = Math.min(ahead.hours[land][good], ahead.hours[by][good]);
        return ahead.hours[land][good] - world.hours[land][good];
    }

    long on(int land) {
        if (noLand(land)) {
            return BAD;
        }
        if (ahead == null) {
            return STATE;
        }
        int up = 0;
        int down = 0;
        for (int g = 0; g < world.goods(); g++) {
            long d = world.rest()[land] * ahead.price(g) - ahead.rest()[land] * world.price(g);
            up += d > 0 ? 1 : 0;
            down += d < 0 ? 1 : 0;
        }
        return up > 0 && down > 0 ? 2 : up > 0 ? 1 : down > 0 ? -1 : 0;
    }

    long edge(int land, int good) {
        if (noLand(land) || noGood(good)) {
            return BAD;
        }
        for (int d = 1; d <= 19; d++) {
            for (int sign = 1; sign >= -1; sign -= 2) {
                W w = world.with();
                w.hours[land][good] += sign * d;
                if (w.hours[land][good] >= 1 && w.hours[land][good] <= 20 && w.makers(good) != world.makers(good)) {
                    return sign * d;
                }
            }
        }
        return NONE;
    }

    long move(int n) {
        if (n < 1 || n > 5) {
            return BAD;
        }
        if (world == null) {
            return STATE;
        }
        ahead = world;
        for (int went = 0; went < n; went++) {
            long[] wages = world.rest();
            long least = Arrays.stream(wages).min().getAsLong();
            long most = Arrays.stream(wages).max().getAsLong();
            int from = 0;
            while (wages[from] != least) {
                from++;
            }
            int to = 0;
            while (wages[to] != most) {
                to++;
            }
            if (least == most || world.hands[from] < 2 || world.hands[to] > 98) {
                return went;
            }
            W w = world.with();
            w.hands[from]--;
            w.hands[to]++;
            if (w.rest()[to] < w.rest()[from]) {
                return went;
            }
            world = w;
        }
        return n;
    }

    // ---- asked

    private boolean fits(int good, int kind) {
        int makers = Integer.bitCount(world.makers(good));
        return switch (kind) {
            case 0 -> true;
            case 1 -> makers == 1;
            case 2 -> makers > 1;
            case 3 -> fits(good, 2) && makers == world.lands();
            case 4 -> fits(good, 1) && world.makers(good) == 1;
            default -> fits(good, 4) && world.price(good) >= 10 * world.rest()[0];
        };
    }

    long kind(int good) {
        if (noGood(good)) {
            return BAD;
        }
        int last = 0;
        for (int kind = 0; kind <= 5; kind++) {
            last = fits(good, kind) ? kind : last;
        }
        return last;
    }

    long as(int good, int kind) {
        if (noGood(good) || kind < 0 || kind > 5) {
            return BAD;
        }
        return fits(good, kind) ? fine(good) : finding(3);
    }

    /** A good as an object of the class that its kind is. */
    private class Good {
        final int g;

        Good(int g) {
            this.g = g;
        }

        void began(int body) {
            if (trace.size() < 16) {
                trace.add(body);
            }
        }

        long size() {
            began(10);
            return world.share[g];
        }

        long mark() {
            began(20);
            return g;
        }
    }

    private class Alone extends Good {
        Alone(int g) {
            super(g);
        }

        @Override
        long size() {
            began(11);
            long lent = super.size();
            return lent + mark();
        }

        @Override
        long mark() {
            began(21);
            return super.mark() + 10 * Integer.numberOfTrailingZeros(world.makers(g));
        }
    }

    private class Common extends Good {
        Common(int g) {
            super(g);
        }

        @Override
        long size() {
            began(12);
            return super.size() * Integer.bitCount(world.makers(g));
        }
    }

    private final class Every extends Common {
        Every(int g) {
            super(g);
        }

        @Override
        long size() {
            began(13);
            return super.size() - 1;
        }

        @Override
        long mark() {
            began(22);
            long lent = super.mark();
            return lent + size();
        }
    }

    private class Home extends Alone {
        Home(int g) {
            super(g);
        }

        @Override
        long size() {
            began(14);
            return super.size() * 2;
        }

        @Override
        long mark() {
            began(23);
            return super.mark() + 100;
        }
    }

    private final class Dear extends Home {
        Dear(int g) {
            super(g);
        }

        @Override
        long size() {
            began(15);
            long above = super.size();
            return above - mark();
        }
    }

    long ask(int good, int what) {
        if (noGood(good) || what < 0 || what > 1) {
            return BAD;
        }
        trace.clear();
        Good it = switch ((int) kind(good)) {
            case 1 -> new Alone(good);
            case 2 -> new Common(good);
            case 3 -> new Every(good);
            case 4 -> new Home(good);
            case 5 -> new Dear(good);
            default -> new Good(good);
        };
        return what == 0 ? it.size() : it.mark();
    }

    int trace(int i) {
        return i >= 0 && i < trace.size() ? trace.get(i) : NONE;
    }

    long count(int what) {
        switch (what) {
            case 0:
                return Arrays.stream(rows).filter(r -> r != null).count();
            case 1:
                return world == null ? 0 : world.lands();
            case 2:
                return world == null ? 0 : world.goods();
            case 3:
                return world == null ? 0 : Arrays.stream(world.hands).sum();
            case 4:
                long common = 0;
                for (int g = 0; world != null && g < world.goods(); g++) {
                    common += fits(g, 2) ? 1 : 0;
                }
                return common;
            case 5:
                return tape.length();
            default:
                return BAD;
        }
    }

    int status() {
        return status;
    }
}
