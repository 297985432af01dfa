import java.util.Map;
import java.util.Random;
import java.util.TreeMap;

/** Runs of calls with all kinds of arguments on LandGoods and on the model beside it: every answer must be alike. */
public final class ModelTest {
    private static final int RUNS = 600;
    private static final int CALLS = 200;
    private static final int[] WILD = {Integer.MIN_VALUE, -1000, -2, -1, 0, 1, 2, 3, 6, 7, 8, 9, 39, 40, 41, 400, 901,
        1000, 70000, Integer.MAX_VALUE};
    private static final int[] SMALL_HOURS = {1, 2, 4, 8, 16};
    private static final int[] END_HOURS = {1, 2, 19, 20};

    private final Random random;
    private LandGoods x;
    private Model m;
    private final Due due;
    private final Map<String, Integer> seen;
    private final int run;

    private ModelTest(int run, Due due, Map<String, Integer> seen) {
        this.run = run;
        this.random = new Random(7919L * run + 1);
        this.due = due;
        this.seen = seen;
        this.x = new LandGoods();
        this.m = new Model();
    }

    public static void main(String[] args) {
        Due due = new Due();
        Map<String, Integer> seen = new TreeMap<>();
        // More runs than the usual ones can be asked for by hand.
        int runs = args.length > 0 ? Integer.parseInt(args[0]) : RUNS;
        for (int run = 0; run < runs; run++) {
            new ModelTest(run, due, seen).go();
        }
        // A run of calls that never meets these would prove little.
        for (String wanted : new String[] {"on 0", "on 1", "on -1", "on 2", "more 0", "more 17", "more 25", "more 26",
            "more 153", "more 209", "edge 1", "edge -1", "edge " + LandGoods.NONE, "move 0", "move 1", "move 5",
            "kind 1", "kind 2", "kind 3", "kind 4", "kind 5", "judge 0", "judge 1", "judge 2", "judge 3", "judge 4",
            "judge 5", "judge 6", "stays 0", "stays 1", "status 1", "status 2", "status 3", "status 4", "status 5",
            "fault 1", "fault 2", "fault 3", "feed " + Due.FULL}) {
            due.is("how often '" + wanted + "' was met, at least once", seen.containsKey(wanted) ? 1 : 0, 1);
        }
        due.end("ModelTest");
    }

    private void go() {
        if (random.nextInt(10) > 0) {
            feedWorld();
        }
        for (int n = 0; n < CALLS; n++) {
            call(random.nextInt(29));
        }
    }

    private void is(String name, String call, long got, long want) {
        due.is("run " + run + ": " + call, got, want);
        if (got > -1000 || got == LandGoods.NONE || got == Due.FULL) {
            seen.merge(name + " " + got, 1, Integer::sum);
        }
    }

    private int wildOr(int bound) {
        return random.nextInt(12) == 0 ? WILD[random.nextInt(WILD.length)] : random.nextInt(bound);
    }

    private int land() {
        return wildOr(Math.max(1, (int) m.count(1)));
    }

    private int good() {
        return wildOr(Math.max(1, (int) m.count(2)));
    }

    private void call(int which) {
        switch (which) {
            case 0, 1, 2, 3, 4 -> callRows(which);
            case 5, 6, 7, 8, 9 -> callWorlds(which);
            case 10, 11, 12, 13, 14 -> callRest(which);
            case 15, 16, 17, 18, 19, 20, 21, 22 -> callLands(which);
            default -> callAsked(which);
        }
    }

    private void callRows(int which) {
        int r = wildOr(4);
        int s = wildOr(4);
        int i = wildOr(12);
        int j = wildOr(12);
        int n = wildOr(12);
        switch (which) {
            case 0 -> {
                int lane = wildOr(3);
                is("row", "row(" + r + ", " + lane + ", " + n + ")", x.row(r, lane, n), m.row(r, lane, n));
            }
            case 1, 2 -> {
                int v = random.nextBoolean() ? random.nextInt() : wildOr(1000);
                is("set", "set(" + r + ", " + i + ", " + v + ")", x.set(r, i, v), m.set(r, i, v));
            }
            case 3 -> is("copy", "copy(" + r + ", " + i + ", " + s + ", " + j + ", " + n + ")", x.copy(r, i, s, j, n),
                    m.copy(r, i, s, j, n));
            default -> {
                if (random.nextInt(3) == 0) {
                    is("drop", "drop(" + r + ")", x.drop(r), m.drop(r));
                }
            }
        }
    }

    private void callWorlds(int which) {
        switch (which) {
            case 5 -> {
                if (random.nextInt(6) == 0) {
                    feedWorld();
                }
            }
            case 6 -> {
                long w = random.nextLong();
                int n = wildOr(10);
                if (random.nextInt(8) == 0) {
                    is("feed", "feed(" + w + ", " + n + ")", x.feed(w, n), m.feed(w, n));
                }
            }
            case 7 -> {
                if (random.nextInt(20) == 0) {
                    is("world", "world()", x.world(), m.world());
                }
                is("fault", "fault()", x.fault(), m.fault());
            }
            default -> {
                int l = land();
                int g = good();
                int what = wildOr(3);
                is("told", "told(" + l + ", " + g + ", " + what + ")", x.told(l, g, what), m.told(l, g, what));
            }
        }
    }

    private void feedWorld() {
        StringBuilder text = new StringBuilder(random.nextInt(4) == 0 ? brokenText() : worldText());
        if (random.nextInt(20) == 0) {
            while (text.length() < 420) {
                text.append(' ');
            }
        }
        for (int from = 0; from < text.length(); ) {
            int n = Math.min(1 + random.nextInt(8), text.length() - from);
            long w = Due.bytesOf(text.toString(), from, n);
            if (n < 8) {
                // Bytes above the lowest n are not to count.
                w |= random.nextLong() << (8 * n);
            }
            is("feed", "feed(" + w + ", " + n + ")", x.feed(w, n), m.feed(w, n));
            from += n;
        }
        is("world", "world() of '" + text + "'", x.world(), m.world());
        is("fault", "fault()", x.fault(), m.fault());
    }

    private String gap(boolean needed) {
        String gap = needed ? " " : "";
        int extra = random.nextInt(8) == 0 ? random.nextInt(3) : 0;
        for (int i = 0; i < extra; i++) {
            gap += random.nextBoolean() ? " " : "\n";
        }
        return gap;
    }

    private String worldText() {
        int goods = 1 + random.nextInt(6);
        int lands = random.nextInt(4) == 0 ? 1 + random.nextInt(2) : 3;
        int style = random.nextInt(5);
        StringBuilder text = new StringBuilder(gap(false));
        for (int g = 0; g < goods; g++) {
            text.append("good").append(gap(random.nextInt(9) > 0)).append(numberBy(style, 3, 20));
            text.append(gap(false)).append(";").append(gap(false));
        }
        int[] before = new int[goods];
        for (int l = 0; l < lands; l++) {
            text.append("land").append(gap(true)).append(numberBy(style, 12, 99));
            for (int g = 0; g < goods; g++) {
                int h = hoursBy(style);
                before[g] = l > 0 && random.nextInt(8) == 0 ? before[g] : h;
                text.append(gap(true)).append(before[g]);
            }
            text.append(gap(false)).append(";").append(gap(false));
        }
        return text.toString();
    }

    private int hoursBy(int style) {
        return switch (style) {
            case 0 -> SMALL_HOURS[random.nextInt(SMALL_HOURS.length)];
            case 1 -> 1 + random.nextInt(4);
            case 4 -> END_HOURS[random.nextInt(END_HOURS.length)];
            default -> 1 + random.nextInt(20);
        };
    }

    /** Few, many, or, as the greatest wages and the most hands come so, just the least or the most. */
    private String numberBy(int style, int few, int many) {
        if (style == 4) {
            return random.nextBoolean() ? "1" : "" + (many - random.nextInt(2));
        }
        return number(style < 2 ? few : many);
    }

    private String number(int most) {
        int v = 1 + random.nextInt(most);
        return v < 10 && random.nextInt(10) == 0 ? "0" + v : "" + v;
    }

    private String brokenText() {
        StringBuilder text = new StringBuilder(worldText());
        String[] bits = {"0", "9", "good", "land", ";", " ", "G", "good 3;", "land 3 3;", "\t", "21", "100", "99", "x"};
        for (int n = 1 + random.nextInt(2); n > 0; n--) {
            int at = random.nextInt(text.length());
            int until = Math.min(text.length(), at + random.nextInt(3));
            text.replace(at, until, random.nextInt(3) == 0 ? "" : bits[random.nextInt(bits.length)]);
            if (text.length() == 0) {
                text.append(' ');
            }
        }
        if (random.nextInt(8) == 0) {
            text.insert(0, "good 1;good 2;good 3;good 4;");
        }
        return text.toString();
    }

    private void callRest(int which) {
        int l = land();
        int g = good();
        int what = wildOr(3);
        switch (which) {
            case 10 -> is("wage", "wage(" + l + ", " + what + ")", x.wage(l, what), m.wage(l, what));
            case 11 -> is("price", "price(" + g + ", " + what + ")", x.price(g, what), m.price(g, what));
            case 12 -> is("gain", "gain(" + l + ", " + g + ", " + what + ")", x.gain(l, g, what), m.gain(l, g, what));
            case 13 -> judgeRest();
            default -> {
                int r = wildOr(4);
                int i = wildOr(4);
                fillRow(r, i + 3L, 12);
                is("judge", "judge(" + r + ", " + i + ")", x.judge(r, i), m.judge(r, i));
            }
        }
        is("status", "status()", x.status(), m.status());
    }

    private void fillRow(int r, long n, int bound) {
        if (r < 0 || r > 7 || n < 1 || n > 40 || random.nextInt(8) == 0) {
            return;
        }
        x.row(r, 2, (int) n);
        m.row(r, 2, (int) n);
        for (int i = 0; i < n; i++) {
            int v = random.nextInt(40) == 0 ? WILD[random.nextInt(WILD.length)] : 1 + random.nextInt(bound);
            x.set(r, i, v);
            m.set(r, i, v);
        }
    }

    /** Each good to one land: rings of three that no ring of two forestalls are met only so. */
    private void spreadAlone(int r, int i) {
        for (int g = 0; g < m.count(2) && i >= 0 && i < 40; g++) {
            int v = 1 << random.nextInt(Math.max(1, (int) m.count(1)));
            x.set(r, i + g, v);
            m.set(r, i + g, v);
        }
    }

    /** Wages that are told to be at rest must leave no land idle, if they can be told by hand at all. */
    private void judgeRest() {
        int lands = (int) m.count(1);
        if (lands == 0) {
            return;
        }
        long common = 1;
        for (int l = 0; l < lands; l++) {
            common = common / Model.gcd(common, x.wage(l, 1)) * x.wage(l, 1);
        }
        x.row(3, 2, lands);
        m.row(3, 2, lands);
        boolean small = true;
        for (int l = 0; l < lands; l++) {
            long v = x.wage(l, 0) * (common / x.wage(l, 1));
            small = small && v <= 999;
            x.set(3, l, (int) v);
            m.set(3, l, (int) v);
        }
        is("judge", "judge(3, 0)", x.judge(3, 0), m.judge(3, 0));
        is("judge", "judge(3, 0) at rest", x.judge(3, 0), small ? 0 : Due.BAD);
    }

    private void callLands(int which) {
        int l = land();
        int k = land();
        int g = good();
        switch (which) {
            case 15, 16 -> {
                int i = random.nextInt(3) == 0 ? -1 : wildOr(7);
                is("chain", "chain(" + l + ", " + k + ", " + i + ")", x.chain(l, k, i), m.chain(l, k, i));
            }
            case 17 -> {
                int r = wildOr(4);
                int i = wildOr(3);
                fillRow(r, i + 6L, Math.max(1, (1 << (int) m.count(1)) - 1));
                if (random.nextBoolean()) {
                    spreadAlone(r, i);
                }
                is("more", "more(" + r + ", " + i + ")", x.more(r, i), m.more(r, i));
                is("status", "status()", x.status(), m.status());
            }
            case 18 -> {
                int f = wildOr(300);
                is("stays", "stays(" + l + ", " + g + ", " + f + ")", x.stays(l, g, f), m.stays(l, g, f));
            }
            case 19 -> is("learn", "learn(" + l + ", " + k + ", " + g + ")", x.learn(l, k, g), m.learn(l, k, g));
            case 20 -> {
                int n = wildOr(6);
                is("move", "move(" + n + ")", x.move(n), m.move(n));
            }
            case 21 -> {
                if (random.nextInt(4) == 0) {
                    is("edge", "edge(" + l + ", " + g + ")", x.edge(l, g), m.edge(l, g));
                }
            }
            default -> is("on", "on(" + l + ")", x.on(l), m.on(l));
        }
    }

    private void callAsked(int which) {
        int g = good();
        int what = wildOr(6);
        switch (which) {
            case 23 -> is("kind", "kind(" + g + ")", x.kind(g), m.kind(g));
            case 24 -> is("as", "as(" + g + ", " + what + ")", x.as(g, what), m.as(g, what));
            case 25, 26 -> {
                int asked = wildOr(2);
                is("ask", "ask(" + g + ", " + asked + ")", x.ask(g, asked), m.ask(g, asked));
                for (int i = -1; i < 12; i++) {
                    is("trace", "trace(" + i + ")", x.trace(i), m.trace(i));
                }
            }
            case 27 -> is("count", "count(" + what + ")", x.count(what), m.count(what));
            default -> is("status", "status()", x.status(), m.status());
        }
    }
}
