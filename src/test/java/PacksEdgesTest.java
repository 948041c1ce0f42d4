/** Boundary cases of promises 45 to 50: packs by seeds. */
public final class PacksEdgesTest {
    private static final int LEAST = Integer.MIN_VALUE;
    private static final int MOST = Integer.MAX_VALUE;
    private static final Edge edge = new Edge();

    public static void main(String[] args) {
        promise45();
        nothingIsDealt();
        promise46();
        promise47();
        promise48();
        promise49();
        trayForLike();
        promise50();
        edge.end("wets", "meanWets", "bestSuit", "like", "likeFirst", "packTop");
    }

    /** WETS by the calls that do it: a shuffle, then a run. */
    private static int wetsOf(WaterPatience x, int suit, int seed) {
        x.shuffle(seed);
        x.run();
        int home = x.homeOf(suit);
        return home * (home + 1) / 2;
    }

    private static void promise45() {
        edge.says("WETS of a SUIT by a seed: RANKS (2; 5).");
        edge.in(Edge::taped);
        for (int seed : new int[] {0, 1, 9998, 9999}) {
            for (int suit = 0; suit <= 1; suit++) {
                edge.asks(wetsOf(Edge.taped(), suit, seed), "wets", suit, seed);
            }
        }
        edge.refused(5, "wets", 0, -1);
        edge.refused(5, "wets", 0, 10000);
        edge.refused(5, "wets", 1, LEAST);
        edge.refused(5, "wets", 1, MOST);
        edge.refused(2, "wets", -1, 0);
        edge.refused(2, "wets", 2, 0);
        edge.refused(2, "wets", 2, -1);
        edge.refused(2, "wets", -1, 10000);
        edge.refused(2, "wets", LEAST, 0);
        edge.refused(2, "wets", MOST, 0);
        edge.in(Edge::full);
        edge.asks(wetsOf(Edge.full(), 3, 9999), "wets", 3, 9999);
        edge.refused(2, "wets", 4, 9999);
        edge.in(WaterPatience::new);
        edge.refused(2, "wets", 0, 0);
    }

    private static void nothingIsDealt() {
        edge.says("its RANKS that come HOME by a RUN then (nothing is dealt)");
        edge.in(Edge.of("ranks 6;suit a;"));
        edge.asks(0, "wets", 0, 5);
        edge.in(Edge.of("ranks 1;suit a;suit b;row;"));
        for (int seed = 0; seed < 20; seed++) {
            WaterPatience x = edge.gives(Due.with("ranks 1;suit a;suit b;row;").packTop(0, seed) == 0 ? 1 : 0, "wets", 0, seed);
            edge.is("one of both", x.wets(0, seed) + x.wets(1, seed), 1);
        }
        edge.in(Edge.of("ranks 6;suit a;row;row;row;"));
        int least = 99;
        int most = 0;
        for (int seed = 0; seed < 2000; seed++) {
            WaterPatience x = Due.with("ranks 6;suit a;row;row;row;");
            int wets = x.wets(0, seed);
            least = Math.min(least, wets);
            most = Math.max(most, wets);
            if (seed % 50 == 0) {
                edge.is("wets by " + seed, wets, wetsOf(x, 0, seed));
            }
        }
        edge.is("the least", least, 0);
        edge.is("the most: 1 to 6", most, 21);
    }

    private static final int[][] WRONG_SEEDS = {{-1, 1}, {-1, 50}, {10000, 1}, {0, 0}, {5, 0}, {9999, 0}, {0, -1}, {5, -1}, {0, 51}, {9999, 2}, {9951, 50},
        {9950, 51}, {LEAST, 1}, {MOST, 1}, {0, LEAST}, {0, MOST}, {MOST, MOST}, {LEAST, MOST}};

    private static void promise46() {
        edge.says("The FRACTION is the mean of WETS of a SUIT by so many seeds (1 to 50) from one on (2; 5: the last above "
                + "9,999, too).");
        edge.in(Edge::taped);
        for (int[] fine : new int[][] {{0, 1}, {0, 50}, {9999, 1}, {9950, 50}, {9998, 2}, {1234, 49}}) {
            for (int suit = 0; suit <= 1; suit++) {
                long sum = 0;
                for (int seed = fine[0]; seed < fine[0] + fine[1]; seed++) {
                    sum += wetsOf(Edge.taped(), suit, seed);
                }
                long divisor = sum == 0 ? fine[1] : 1;
                for (long d = 2; d <= fine[1] && sum > 0; d++) {
                    divisor = sum % d == 0 && fine[1] % d == 0 ? d : divisor;
                }
                edge.tells(sum / divisor, fine[1] / divisor, "meanWets", suit, fine[0], fine[1]);
            }
        }
        for (int[] wrong : WRONG_SEEDS) {
            edge.refused(5, "meanWets", 0, wrong[0], wrong[1]);
            edge.refused(2, "meanWets", 2, wrong[0], wrong[1]);
        }
        edge.refused(2, "meanWets", -1, 0, 1);
        edge.refused(2, "meanWets", 2, 0, 1);
        edge.refused(2, "meanWets", LEAST, 0, 1);
        edge.refused(2, "meanWets", MOST, 0, 1);
        edge.in(Edge.of("suit a;"));
        edge.tells(0, 1, "meanWets", 0, 0, 50);
        edge.in(WaterPatience::new);
        edge.refused(2, "meanWets", 0, 0, 1);
    }

    private static void promise47() {
        edge.says("The SUIT that WETS the most by these seeds together, of several the first (5; 8: no SUITS).");
        edge.in(Edge::taped);
        for (int[] fine : new int[][] {{0, 1}, {0, 50}, {9999, 1}, {9950, 50}, {5, 2}, {6, 1}, {7, 1}, {8, 1}}) {
            int more = 0;
            for (int seed = fine[0]; seed < fine[0] + fine[1]; seed++) {
                more += wetsOf(Edge.taped(), 1, seed) - wetsOf(Edge.taped(), 0, seed);
            }
            edge.asks(more > 0 ? 1 : 0, "bestSuit", fine[0], fine[1]);
        }
        for (int[] wrong : WRONG_SEEDS) {
            edge.refused(5, "bestSuit", wrong[0], wrong[1]);
        }
        edge.in(Edge.of("suit a;suit b;suit c;suit d;"));
        edge.asks(0, "bestSuit", 0, 50);
        edge.in(Edge.of("ranks 1;suit a;suit b;suit c;suit d;row;"));
        for (int seed = 0; seed < 30; seed++) {
            edge.asks(Due.with("ranks 1;suit a;suit b;suit c;suit d;row;").packTop(0, seed) / 6, "bestSuit", seed, 1);
        }
        edge.in(WaterPatience::new);
        edge.refused(8, "bestSuit", 0, 1);
        edge.refused(8, "bestSuit", 9950, 50);
        for (int[] wrong : WRONG_SEEDS) {
            edge.refused(5, "bestSuit", wrong[0], wrong[1]);
        }
    }

    /** Of "a 1" and "b 1" the one that lies in the only ROW is WET; tray 0 tells that it is a. */
    private static WaterPatience two() {
        WaterPatience x = Due.with("ranks 1;suit a;suit b;row;");
        x.tray(0, 0, 2);
        x.write(0, 0, 1);
        x.tray(1, 3, 1);
        x.write(1, 0, 1);
        x.tray(2, 2, 0);
        return x;
    }

    private static boolean isLike(int seed) {
        return two().packTop(0, seed) == 0;
    }

    private static void promise48() {
        edge.says("LIKE: how many of so many seeds (1 to 50) from one on (1; 3; 4; 5).");
        edge.in(PacksEdgesTest::two);
        for (int[] fine : new int[][] {{0, 1}, {1, 1}, {2, 1}, {0, 50}, {9950, 50}, {9999, 1}}) {
            int want = 0;
            for (int seed = fine[0]; seed < fine[0] + fine[1]; seed++) {
                want += isLike(seed) ? 1 : 0;
            }
            edge.asks(want, "like", 0, fine[0], fine[1]);
        }
        wrongForLike("like");
    }

    private static void wrongForLike(String call) {
        for (int[] wrong : WRONG_SEEDS) {
            edge.refused(5, call, 0, wrong[0], wrong[1]);
            edge.refused(4, call, 1, wrong[0], wrong[1]);
            edge.refused(3, call, 3, wrong[0], wrong[1]);
            edge.refused(1, call, 4, wrong[0], wrong[1]);
        }
        edge.refused(4, call, 1, 0, 1);
        edge.refused(4, call, 2, 0, 1);
        edge.refused(3, call, 3, 0, 1);
        for (int tray : new int[] {-1, 4, LEAST, MOST}) {
            edge.refused(1, call, tray, 0, 1);
        }
    }

    private static void promise49() {
        edge.says("The first seed of LIKE (1; 3; 4; 5; 8: none).");
        edge.in(PacksEdgesTest::two);
        for (int seed = 0; seed < 20; seed++) {
            if (isLike(seed)) {
                edge.asks(seed, "likeFirst", 0, seed, 1);
            } else {
                edge.refused(8, "likeFirst", 0, seed, 1);
            }
        }
        int first = 9950;
        while (!isLike(first)) {
            first++;
        }
        edge.asks(first, "likeFirst", 0, 9950, 50);
        int last = 9999;
        while (!isLike(last)) {
            last--;
        }
        edge.asks(last, "likeFirst", 0, last, 10000 - last);
        wrongForLike("likeFirst");
    }

    private static void trayForLike() {
        edge.says("LIKE: seeds by which each SUIT WETS just what a TRAY tells, SUIT by SUIT.");
        int seed = 0;
        while (!isLike(seed)) {
            seed++;
        }
        WaterPatience x = two();
        edge.on(x, 1, "like", 0, seed, 1);
        x.write(0, 1, 1);
        edge.on(x, 0, "like", 0, seed, 1);
        x.write(0, 1, -1);
        edge.on(x, 0, "like", 0, seed, 1);
        x.write(0, 1, 0);
        x.write(0, 0, 2);
        edge.on(x, 0, "like", 0, seed, 1);
        x.tray(0, 3, 2);
        x.write(0, 0, 1 + (1L << 32));
        edge.on(x, 0, "like", 0, seed, 1);
        x.tray(0, 0, 60);
        x.write(0, 0, 1);
        x.write(0, 2, 77);
        edge.on(x, 1, "like", 0, seed, 1);
        edge.on(x, seed, "likeFirst", 0, seed, 1);
        WaterPatience none = new WaterPatience();
        none.tray(3, 0, 0);
        edge.on(none, 50, "like", 3, 0, 50);
        edge.on(none, 9999, "likeFirst", 3, 9999, 1);
    }

    private static void promise50() {
        edge.says("The top CARD of a ROW by a seed's PACK (2; 5; 8: none).");
        edge.in(Edge::taped);
        for (int seed : new int[] {0, 9999}) {
            WaterPatience dealt = Edge.taped();
            dealt.shuffle(seed);
            for (int row = 0; row <= 2; row++) {
                edge.asks(dealt.topOf(row), "packTop", row, seed);
            }
        }
        for (int seed : new int[] {-1, 10000, LEAST, MOST}) {
            edge.refused(5, "packTop", 0, seed);
            edge.refused(2, "packTop", 3, seed);
        }
        for (int row : new int[] {-1, 3, 6, LEAST, MOST}) {
            edge.refused(2, "packTop", row, 0);
        }
        edge.in(Edge::full);
        WaterPatience dealt = Edge.full();
        dealt.shuffle(31);
        edge.asks(dealt.topOf(5), "packTop", 5, 31);
        edge.refused(2, "packTop", 6, 31);
        // 1 and 2 cards; nothing is left for row 2
        edge.in(Edge.of("ranks 3;suit a;row a 1;row a 2;row a 3;"));
        edge.gives(Due.with("ranks 3;suit a;row;row;").packTop(1, 8), "packTop", 1, 8);
        edge.refused(8, "packTop", 2, 8);
        edge.refused(5, "packTop", 2, 10000);
        // 1 and 1 of 2
        edge.in(Edge.of("ranks 2;suit a;row;row;"));
        WaterPatience x = edge.gives(1 - Due.with("ranks 2;suit a;row;").packTop(0, 8), "packTop", 1, 8);
        edge.on(x, 1 - x.packTop(1, 8), "packTop", 0, 8);
        edge.in(Edge.of("row;"));
        edge.refused(8, "packTop", 0, 0);
        edge.refused(5, "packTop", 0, -1);
        edge.in(WaterPatience::new);
        edge.refused(2, "packTop", 0, 0);
    }
}
