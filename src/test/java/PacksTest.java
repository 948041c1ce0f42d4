/** Promises 45 to 50: packs by seeds. */
public final class PacksTest {
    private static final String VALLEY = "ranks 3;suit a;suit b red;suit c;row;row;row;";
    private static final Due due = new Due();

    public static void main(String[] args) {
        promise45();
        promise46();
        promise47();
        promises48and49();
        promise50();
        due.end();
    }

    /** WETS as the document tells it: a shuffle, then a run. */
    private static int[] wetsByHand(int seed) {
        WaterPatience x = Due.with(VALLEY);
        x.shuffle(seed);
        x.run();
        int[] wets = new int[3];
        for (int suit = 0; suit < 3; suit++) {
            int home = x.homeOf(suit);
            wets[suit] = home * (home + 1) / 2;
        }
        return wets;
    }

    private static void promise45() {
        WaterPatience x = Due.with(VALLEY);
        for (int seed = 0; seed < 60; seed++) {
            int[] want = wetsByHand(seed);
            for (int suit = 0; suit < 3; suit++) {
                due.good("wets(" + suit + ", " + seed + ")", x.wets(suit, seed), x, want[suit]);
            }
        }
        due.good("nothing was dealt", x.many(10), x, 0);
        due.good("the last seed", x.wets(0, 9999), x, wetsByHand(9999)[0]);
        due.refused("no suit", x.wets(3, 0), x, 2);
        due.refused("suit -1", x.wets(-1, -1), x, 2);
        due.refused("seed -1", x.wets(0, -1), x, 5);
        due.refused("seed 10,000", x.wets(0, 10000), x, 5);
        WaterPatience y = Due.with("suit a;suit b;stock a 1;");
        due.good("without rows nothing comes home", y.wets(0, 3), y, 0);
        WaterPatience z = Due.with("ranks 1;suit a;row a 1;");
        z.run();
        due.good("what is home is dealt, too", z.wets(0, 3), z, 1);
    }

    private static void promise46() {
        WaterPatience x = Due.with(VALLEY);
        int sum = 0;
        for (int seed = 7; seed < 57; seed++) {
            sum += wetsByHand(seed)[1];
        }
        due.good("50 seeds", x.meanWets(1, 7, 50), x);
        due.is("top by bottom", x.top() * 50, sum * x.bottom());
        due.is("no common divisor", gcd(x.top(), x.bottom()), 1);
        due.refused("no suit", x.meanWets(3, 0, 0), x, 2);
        due.refused("51 seeds", x.meanWets(0, 0, 51), x, 5);
        due.refused("0 seeds", x.meanWets(0, 0, 0), x, 5);
        due.refused("seed -1", x.meanWets(0, -1, 5), x, 5);
        due.refused("the last above 9,999", x.meanWets(0, 9999, 2), x, 5);
        due.refused("far above", x.meanWets(0, Integer.MAX_VALUE, 50), x, 5);
        due.is("the fraction stays", x.top() * 50, sum * x.bottom());
        due.good("the last", x.meanWets(0, 9999, 1), x);
        due.is("one seed", x.top(), wetsByHand(9999)[0]);
        due.is("by 1", x.bottom(), 1);
        WaterPatience y = Due.with("suit a;");
        due.good("nothing", y.meanWets(0, 0, 50), y);
        due.is("0", y.top(), 0);
        due.is("by 1", y.bottom(), 1);
    }

    private static long gcd(long a, long b) {
        return b == 0 ? a : gcd(b, a % b);
    }

    private static void promise47() {
        WaterPatience x = Due.with(VALLEY);
        for (int seed = 0; seed < 20; seed++) {
            int[] sums = new int[3];
            for (int many = 1; many <= 5; many++) {
                int[] wets = wetsByHand(seed + many - 1);
                int best = 0;
                for (int suit = 0; suit < 3; suit++) {
                    sums[suit] += wets[suit];
                    best = sums[suit] > sums[best] ? suit : best;
                }
                due.good("bestSuit(" + seed + ", " + many + ")", x.bestSuit(seed, many), x, best);
            }
        }
        due.refused("0 seeds", x.bestSuit(0, 0), x, 5);
        due.refused("51 seeds", x.bestSuit(0, 51), x, 5);
        due.refused("the last above 9,999", x.bestSuit(9990, 11), x, 5);
        due.good("the last", x.bestSuit(9999, 1), x, bestOf(wetsByHand(9999)));
        WaterPatience y = new WaterPatience();
        due.refused("no suits", y.bestSuit(0, 1), y, 8);
        due.refused("no suits, nor seeds", y.bestSuit(0, 0), y, 5);
    }

    private static int bestOf(int[] wets) {
        int best = 0;
        for (int suit = 1; suit < wets.length; suit++) {
            best = wets[suit] > wets[best] ? suit : best;
        }
        return best;
    }

    private static void promises48and49() {
        WaterPatience x = Due.with(VALLEY);
        int[] told = wetsByHand(33);
        x.tray(2, 0, 4);
        for (int suit = 0; suit < 3; suit++) {
            x.write(2, suit, told[suit]);
        }
        x.write(2, 3, 99);
        int many = 0;
        int first = -1;
        for (int seed = 10; seed < 60; seed++) {
            int[] wets = wetsByHand(seed);
            if (wets[0] == told[0] && wets[1] == told[1] && wets[2] == told[2]) {
                many++;
                first = first < 0 ? seed : first;
            }
        }
        due.good("like", x.like(2, 10, 50), x, many);
        due.good("likeFirst", x.likeFirst(2, 10, 50), x, first);
        due.refused("not as far as the first", x.likeFirst(2, first - 3, 3), x, 8);
        for (int suit = 0; suit < 3; suit++) {
            x.write(2, suit, told[suit] + 1);
            due.refused("unlike in suit " + suit, x.likeFirst(2, 33, 1), x, 8);
            x.write(2, suit, told[suit]);
        }
        x.write(2, 2, 100);
        due.good("none", x.like(2, 10, 50), x, 0);
        due.refused("no first", x.likeFirst(2, 10, 50), x, 8);
        x.tray(1, 0, 2);
        int[][] wrong = {{4, 0, 0, 1}, {-1, 0, 1, 1}, {0, 0, 0, 3}, {1, 0, 0, 4}, {2, 0, 0, 5}, {2, 0, 51, 5},
            {2, -1, 1, 5}, {2, 10000, 1, 5}, {2, 9999, 2, 5}};
        for (int[] w : wrong) {
            due.refused("like", x.like(w[0], w[1], w[2]), x, w[3]);
            due.refused("likeFirst", x.likeFirst(w[0], w[1], w[2]), x, w[3]);
        }
        WaterPatience y = new WaterPatience();
        y.tray(0, 0, 0);
        due.good("without suits all are like", y.like(0, 0, 7), y, 7);
        due.good("the first is", y.likeFirst(0, 5, 7), y, 5);
    }

    private static void promise50() {
        WaterPatience x = Due.with("ranks 2;suit a;suit b;row;row;row;row;");
        for (int seed = 0; seed < 10; seed++) {
            WaterPatience y = Due.with("ranks 2;suit a;suit b;row;row;row;row;");
            y.shuffle(seed);
            for (int row = 0; row < 3; row++) {
                due.good("packTop(" + row + ", " + seed + ")", x.packTop(row, seed), x, y.topOf(row));
            }
            due.refused("no card is left for row 3", x.packTop(3, seed), x, 8);
        }
        due.good("nothing was dealt", x.many(10), x, 0);
        due.refused("no row", x.packTop(4, -1), x, 2);
        due.refused("row -1", x.packTop(-1, 0), x, 2);
        due.refused("seed -1", x.packTop(3, -1), x, 5);
        due.refused("seed 10,000", x.packTop(0, 10000), x, 5);
    }
}
