/** Boundary cases of promises 40 to 44: plans. None of these calls changes anything. */
public final class PlansEdgesTest {
    private static final int LEAST = Integer.MIN_VALUE;
    private static final int MOST = Integer.MAX_VALUE;
    private static final Edge edge = new Edge();

    public static void main(String[] args) {
        wrongNumbers();
        sets();
        promise40();
        promise41();
        promise42();
        promise43();
        promise44();
        edge.end("yields", "first", "game", "cheat", "cheatAt");
    }

    private static void wrongNumbers() {
        edge.says("5 a number that can't be (a set with what there is none of, too).");
        edge.in(Edge::taped);
        for (String call : new String[] {"yields", "first", "game"}) {
            for (int set : new int[] {-1, 4, 8, 5, LEAST, MOST}) {
                edge.refused(5, call, set, 1);
            }
            for (int n : new int[] {0, 4, -1, LEAST, MOST}) {
                edge.refused(5, call, 1, n);
                edge.refused(5, call, 0, n);
            }
            edge.refused(5, call, 4, 4);
        }
    }

    /** The last set and the first that is none, by how many SUITS there are. */
    private static void sets() {
        edge.says("a set with what there is none of, too");
        StringBuilder text = new StringBuilder("row;");
        for (int suits = 0; suits <= 4; suits++) {
            edge.in(Edge.of(text.toString()));
            int first = 1 << suits;
            edge.asks(0, "yields", 0, 1);
            edge.asks(0, "yields", first - 1, 3);
            edge.asks(0, "game", first - 1, 3);
            edge.refused(8, "first", first - 1, 3);
            for (String call : new String[] {"yields", "first", "game"}) {
                edge.refused(5, call, first, 1);
                edge.refused(5, call, -1, 1);
                edge.refused(5, call, first, 0);
            }
            text.append("suit ").append((char) ('a' + suits)).append(';');
        }
    }

    private static void promise40() {
        edge.says("YIELD of a set of SUITS in n MOVES (1 to 3; fewer, if there are none more): the most RANKS of them, "
                + "together, that can come HOME (DEALS are no MOVES)");
        edge.in(Edge::taped);
        int[][] want = {{0, 0, 0}, {1, 1, 3}, {1, 1, 3}, {1, 2, 4}};
        for (int set = 0; set <= 3; set++) {
            for (int n = 1; n <= 3; n++) {
                edge.asks(want[set][n - 1], "yields", set, n);
            }
        }
        edge.in(Edge.of("suit a;suit b;row b 2;row b 3 a 1;"));
        for (int n = 1; n <= 3; n++) {
            edge.asks(1, "yields", 1, n);
        }
        edge.in(Edge.of("suit a;row a 3;stock a 1 a 2;"));
        edge.asks(0, "yields", 1, 3);
        edge.in(Edge.of("ranks 6;suit a;row a 6 a 5 a 4 a 3 a 2 a 1;"));
        edge.asks(1, "yields", 1, 1);
        edge.asks(3, "yields", 1, 2);
        edge.asks(6, "yields", 1, 3);
        WaterPatience x = edge.gives(0, "move", 0, 7);
        x.move(0, 7);
        x.move(0, 7);
        edge.on(x, 4, "yields", 1, 1);
        edge.on(x, 15, "yields", 1, 3);
        x.run();
        edge.on(x, 0, "yields", 1, 3);
    }

    private static void promise41() {
        edge.says("FIRST of that (5; 8: no MOVE can be).");
        edge.in(WaterPatience::new);
        edge.refused(8, "first", 0, 1);
        edge.refused(8, "first", 0, 3);
        edge.refused(5, "first", 0, 4);
        edge.refused(5, "first", 1, 1);
        edge.in(Edge.of("suit a;row a 2;stock a 1;"));
        edge.refused(8, "first", 1, 1);
        edge.says("FIRST: of all first MOVES that lead to so much the least, told as 10 times the PLACE from where and that "
                + "to where.");
        edge.in(Edge::taped);
        int[][] want = {{7, 7, 7}, {7, 7, 7}, {27, 7, 7}, {7, 7, 7}};
        for (int set = 0; set <= 3; set++) {
            for (int n = 1; n <= 3; n++) {
                edge.asks(want[set][n - 1], "first", set, n);
            }
        }
        edge.in(Edge.of("suit a;suit b;row;row;row;row;row;row b 1 a 1;"));
        edge.asks(50, "first", 0, 1);
        edge.asks(57, "first", 1, 1);
        edge.asks(50, "first", 2, 2);
        edge.asks(50, "first", 3, 3);
        edge.asks(57, "first", 3, 2);
        edge.in(() -> {
            WaterPatience x = Due.with("suit a;row a 2;stock a 1;");
            x.deal();
            return x;
        });
        edge.asks(67, "first", 1, 1);
        edge.asks(67, "first", 0, 3);
    }

    private static void promise42() {
        edge.says("GAME; STATUS tells NONE from -1 (5).");
        edge.in(Edge::taped);
        edge.asks(-1, "game", 0, 1);
        edge.asks(-2, "game", 0, 2);
        edge.asks(1, "game", 1, 1);
        edge.asks(1, "game", 2, 1);
        edge.asks(1, "game", 3, 1);
        edge.asks(1, "game", 3, 2);
        edge.says("GAME of n MOVES (1 to 3): two by turns MOVE (who can't: it is over), the first first");
        edge.in(Edge.of("suit a;row a 2;"));
        edge.asks(0, "game", 1, 3);
        edge.in(WaterPatience::new);
        edge.asks(0, "game", 0, 3);
        edge.refused(5, "game", 1, 3);
        edge.in(Edge.of("suit a;suit b;row b 3 a 2 a 1;"));
        edge.asks(1, "game", 1, 1);
        edge.asks(3, "game", 1, 2);
        edge.asks(3, "game", 1, 3);
        edge.asks(-1, "game", 2, 1);
        edge.asks(-3, "game", 2, 2);
        edge.asks(-3, "game", 0, 3);
    }

    private static void promise43() {
        edge.says("CHEAT: RANKS (2).");
        edge.in(Edge::taped);
        edge.asks(6, "cheat", 0);
        edge.asks(6, "cheat", 1);
        for (int suit : new int[] {-1, 2, LEAST, MOST}) {
            edge.refused(2, "cheat", suit);
            edge.refused(2, "cheatAt", suit, 0);
        }
        edge.in(WaterPatience::new);
        edge.refused(2, "cheat", 0);
        edge.in(Edge.of("suit a;suit b;suit c;suit d;stock d 1;"));
        edge.asks(0, "cheat", 3);
        edge.refused(2, "cheat", 4);
        edge.in(Edge.of("suit a;row a 2;row;"));
        edge.asks(0, "cheat", 0);
        edge.refused(8, "cheatAt", 0, 0);
        edge.refused(8, "cheatAt", 0, 1);
    }

    private static void promise44() {
        edge.says("Its two PLACES, what 0: the lesser, 1: the other (2; 5; 8: nothing is changed).");
        edge.in(Edge::taped);
        edge.refused(8, "cheatAt", 0, 0);
        edge.refused(8, "cheatAt", 1, 1);
        for (int what : new int[] {-1, 2, LEAST, MOST}) {
            edge.refused(5, "cheatAt", 0, what);
            edge.refused(2, "cheatAt", 2, what);
        }
        edge.says("of several couples the first by PLACES (100 times the ROW and its place, from 0 on; the lesser first; "
                + "nothing is changed if that is as good)");
        // only a 1, at the bottom of the last row, can be brought up, by its top card
        edge.in(Edge.of("ranks 6;suit a;suit b;suit c;row;row;row;row;row;"
                + "row a 1 a 3 a 4 a 5 a 6 b 2 b 3 b 4 b 5 b 6 c 2 c 3;"));
        couple(0, 1, 500, 511);
        edge.asks(0, "cheat", 1);
        edge.refused(8, "cheatAt", 1, 0);
        edge.in(Edge.of("suit a;suit b;row a 1 b 2;row b 3;row b 4;"));
        couple(0, 1, 0, 1);
        edge.in(Edge.of("suit a;suit b;row b 3;row a 1 b 2;row b 4;"));
        couple(0, 1, 0, 100);
        edge.in(Edge.of("suit a;suit b;row;row a 1 b 2;row b 4;"));
        couple(0, 1, 100, 101);
        edge.in(Edge.of("suit a;suit b;row;row b 3 b 4;row a 1 b 2;"));
        couple(0, 1, 101, 200);
        WaterPatience x = edge.gives(101, "cheatAt", 0, 0);
        edge.refusedOn(x, 8, "cheatAt", 1, 0);
        edge.refusedOn(x, 8, "cheatAt", 1, 1);
        edge.on(x, 200, "cheatAt", 0, 1);
        // each of three couples brings 3, the first of them 1 and 2 by their own row
        edge.in(Edge.of("suit a;suit b;row a 1 a 2;row b 3;row b 4;"));
        couple(0, 3, 0, 1);
        // a 1 comes home without a change, a 2 by one
        edge.in(Edge.of("suit a;suit b;row a 2 b 4;row a 1;"));
        couple(0, 3, 0, 1);
        edge.in(Edge.of("suit a;suit b;row a 1;row b 4;"));
        edge.asks(1, "cheat", 0);
        edge.refused(8, "cheatAt", 0, 0);
    }

    private static void couple(int suit, int ranks, int lesser, int other) {
        edge.asks(ranks, "cheat", suit);
        edge.asks(lesser, "cheatAt", suit, 0);
        edge.asks(other, "cheatAt", suit, 1);
    }
}
