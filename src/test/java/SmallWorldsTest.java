import java.util.Arrays;

/**
 * All worlds of a few small numbers, one by one: what is told of them must be AT REST by the document's own words, with
 * the prices and makers that follow. As there is just one row of wages at rest, this needs no second way to find it.
 */
public final class SmallWorldsTest {
    private static final Due DUE = new Due();
    private static int worlds = 0;

    public static void main(String[] args) {
        everyWorld(1, 2, 3, 3, 1, 2, 3, 4);
        everyWorld(2, 2, 3, 3, 1, 2, 3, 4);
        everyWorld(2, 3, 2, 2, 1, 2, 3);
        everyWorld(3, 1, 1, 3, 1, 2, 3, 4);
        everyWorld(3, 2, 2, 2, 1, 2, 3);
        // Hours so far apart that wages can lie between: then each land may make goods that no other one does.
        everyWorld(3, 3, 3, 2, 1, 4);
        DUE.is("how many worlds there were", worlds, 9 * 3 * 16 + 9 * 9 * 256 + 8 * 4 * 729 + 27 * 64 + 4 * 8 * 729
                + 27 * 8 * 512);
        DUE.end("SmallWorldsTest");
    }

    /** Shares and hands from 1 on, hours of those that are told. */
    private static void everyWorld(int lands, int goods, int shares, int hands, int... hours) {
        int[] most = new int[goods + lands + lands * goods];
        Arrays.fill(most, 0, goods, shares);
        Arrays.fill(most, goods, goods + lands, hands);
        Arrays.fill(most, goods + lands, most.length, hours.length);
        int[] numbers = new int[most.length];
        Arrays.fill(numbers, 1);
        boolean left = true;
        while (left) {
            holds(worldOf(lands, goods, numbers, hours));
            worlds++;
            left = false;
            for (int i = 0; i < numbers.length && !left; i++) {
                left = numbers[i] < most[i];
                numbers[i] = left ? numbers[i] + 1 : 1;
            }
        }
    }

    private static Model.W worldOf(int lands, int goods, int[] numbers, int[] hours) {
        Model.W w = new Model.W();
        w.share = Arrays.copyOf(numbers, goods);
        w.hands = Arrays.copyOfRange(numbers, goods, goods + lands);
        w.hours = new int[lands][goods];
        for (int i = 0; i < lands * goods; i++) {
            w.hours[i / goods][i % goods] = hours[numbers[goods + lands + i] - 1];
        }
        return w;
    }

    private static String textOf(Model.W w) {
        StringBuilder text = new StringBuilder();
        for (int share : w.share) {
            text.append("good ").append(share).append(';');
        }
        for (int land = 0; land < w.lands(); land++) {
            text.append("land ").append(w.hands[land]);
            for (int hours : w.hours[land]) {
                text.append(' ').append(hours);
            }
            text.append(';');
        }
        return text.toString();
    }

    private static void holds(Model.W w) {
        String text = textOf(w);
        LandGoods x = Due.worldOf(text);
        long common = 1;
        for (int land = 0; land < w.lands(); land++) {
            if (x.wage(land, 0) < 1 || x.wage(land, 1) < 1) {
                DUE.is("10: the wage of " + land + " of '" + text + "' is above 0, both", 0, 1);
                return;
            }
            common = common / Model.gcd(common, x.wage(land, 1)) * x.wage(land, 1);
        }
        long[] wages = new long[w.lands()];
        for (int land = 0; land < wages.length; land++) {
            wages[land] = common / x.wage(land, 1) * x.wage(land, 0);
        }
        DUE.is("10: the wage of land 0 of '" + text + "'", wages[0], common);
        DUE.is("10: AT REST, '" + text + "' by " + Arrays.toString(wages), Model.atRest(w, wages) ? 1 : 0, 1);
        for (int good = 0; good < w.goods(); good++) {
            long price = Model.priceBy(w, wages, good);
            DUE.is("11: price of " + good + " of '" + text + "'", x.price(good, 0) * common, price * x.price(good, 1));
            DUE.is("11: makers of " + good + " of '" + text + "'", x.price(good, 2), Model.makersBy(w, wages, good));
        }
        if (w.lands() == 2) {
            theCut(x, w, wages, text);
        }
    }

    /** Of two lands the cut is by the wages of the whole world. */
    private static void theCut(LandGoods x, Model.W w, long[] wages, String text) {
        int[] alone = new int[2];
        int both = 0;
        for (int good = 0; good < w.goods(); good++) {
            int makers = Model.makersBy(w, wages, good);
            alone[0] += makers == 1 ? 1 : 0;
            alone[1] += makers == 2 ? 1 : 0;
            both |= makers == 3 ? 1 : 0;
        }
        DUE.is("14: the cut of '" + text + "'", x.chain(0, 1, -1), 2 * alone[0] + both);
        DUE.is("14: the cut the other way of '" + text + "'", x.chain(1, 0, -1), 2 * alone[1] + both);
    }
}
