/** Promises 40 to 44: plans. */
public final class PlansTest {
    private static final Due due = new Due();

    public static void main(String[] args) {
        promises40and41();
        promise42();
        promises43and44();
        due.end();
    }

    private static void promises40and41() {
        WaterPatience x = Due.with(Due.VALLEY);
        due.good("hearts in 1", x.yields(1, 1), x, 1);
        due.good("hearts in 2", x.yields(1, 2), x, 3);
        due.good("hearts in 3", x.yields(1, 3), x, 3);
        due.good("clubs in 2", x.yields(2, 2), x, 1);
        due.good("clubs in 3", x.yields(2, 3), x, 3);
        due.good("none in 3", x.yields(0, 3), x, 0);
        due.good("first for none", x.first(0, 3), x, 7);
        due.good("first for clubs in 1", x.first(2, 1), x, 17);
        due.good("first for clubs in 2", x.first(2, 2), x, 7);
        due.good("nothing was done", x.many(9), x, 0);
        due.good("nor moved", x.topOf(1), x, 6);
        int[][] wrong = {{-1, 1}, {4, 1}, {1, 0}, {1, 4}, {Integer.MIN_VALUE, 1}, {1, -1}};
        for (int[] w : wrong) {
            due.refused("yields(" + w[0] + ", " + w[1] + ")", x.yields(w[0], w[1]), x, 5);
            due.refused("first(" + w[0] + ", " + w[1] + ")", x.first(w[0], w[1]), x, 5);
            due.refused("game(" + w[0] + ", " + w[1] + ")", x.game(w[0], w[1]), x, 5);
        }
        // the 2 must be moved away first, to the least of two empty rows
        WaterPatience y = Due.with("suit a;row a 1 a 2;row;row;");
        due.good("fewer moves than asked", y.yields(1, 3), y, 3);
        due.good("by the least first move", y.first(1, 3), y, 1);
        due.good("in 1", y.yields(1, 1), y, 0);
        due.good("the least of all", y.first(1, 1), y, 1);
        due.good("in 2", y.yields(1, 2), y, 1);
        WaterPatience z = Due.with("suit a;row a 2;stock a 1;");
        due.good("deals are no moves", z.yields(1, 3), z, 0);
        due.refused("no move", z.first(1, 3), z, 8);
        z.deal();
        due.good("from the waste", z.yields(1, 3), z, 3);
        due.good("first of that", z.first(1, 3), z, 67);
        due.good("two moves are all there are", z.yields(1, 2), z, 3);
    }

    private static void promise42() {
        WaterPatience x = Due.with(Due.VALLEY);
        due.good("one", x.game(1, 1), x, 1);
        due.good("two", x.game(1, 2), x, 0);
        // 17 leaves the other none but 07
        due.good("of both suits", x.game(3, 2), x, 2);
        due.good("of none: the other waits by a move", x.game(0, 1), x, 0);
        // the only move is bad for the first, and must be made
        WaterPatience y = Due.with("suit a;suit b;row b 2 b 1;");
        due.good("forced", y.game(1, 1), y, -1);
        due.good("forced again, then it is over", y.game(1, 3), y, -3);
        due.good("NONE is told by STATUS", y.game(1, 1), y, -1);
        due.refused("with 5", y.game(4, 1), y, 5);
        // behind a 1 the second won't lay b 1 home, which would free a 2
        WaterPatience w = Due.with("suit a;suit b;row;row a 2 b 1;row b 3 a 1;");
        due.good("the second waits", w.game(1, 3), w, 1);
        WaterPatience v = Due.with("suit a;suit b;row b 1;row a 2;row a 1;");
        due.good("a 1, b 1, a 2", v.game(1, 3), v, 2);
        WaterPatience z = Due.with("suit a;row a 2;");
        due.good("no move: it is over at once", z.game(1, 3), z, 0);
    }

    private static void promises43and44() {
        WaterPatience x = Due.with("ranks 2;suit a red;suit b;row a 1 b 1 b 2;row a 2;field f of a dries 0;");
        due.good("both", x.cheat(0), x, 3);
        due.good("lesser", x.cheatAt(0, 0), x, 0);
        due.good("other", x.cheatAt(0, 1), x, 2);
        due.good("b", x.cheat(1), x, 3);
        due.good("b's lesser", x.cheatAt(1, 0), x, 0);
        due.good("b's other", x.cheatAt(1, 1), x, 2);
        due.good("nothing was done", x.card(0, 0), x, 0);
        due.refused("no suit", x.cheat(2), x, 2);
        due.refused("suit -1", x.cheat(-1), x, 2);
        due.refused("no suit ahead of what", x.cheatAt(2, 2), x, 2);
        due.refused("what 2", x.cheatAt(0, 2), x, 5);
        due.refused("what -1", x.cheatAt(0, -1), x, 5);
        WaterPatience y = Due.with(Due.VALLEY);
        due.good("nothing better", y.cheat(0), y, 6);
        due.refused("nothing is changed", y.cheatAt(0, 0), y, 8);
        due.refused("nothing is changed", y.cheatAt(0, 1), y, 8);
        WaterPatience fresh = Due.with("suit a;suit b;row b 4;row a 1 b 2;row b 3;");
        due.good("asked at once", fresh.cheatAt(0, 1), fresh, 100);
        due.refused("of b there is nothing", fresh.cheatAt(1, 1), fresh, 8);
        due.refused("nor a lesser one", fresh.cheatAt(1, 0), fresh, 8);
        WaterPatience both = Due.with("suit a;suit b;row;row b 3 b 4;row a 1 b 2;");
        due.good("lesser in row 1", both.cheatAt(0, 0), both, 101);
        due.good("other in row 2", both.cheatAt(0, 1), both, 200);
        WaterPatience z = Due.with("suit a;suit b;row b 4;row a 1 b 2;row b 3;");
        due.good("across rows", z.cheat(0), z, 1);
        due.good("the first couple", z.cheatAt(0, 0), z, 0);
        due.good("a 1 comes to row 0", z.cheatAt(0, 1), z, 100);
        WaterPatience w = Due.with("suit a;suit b;row a 1 b 2;row a 2;stock a 3;");
        w.deal();
        due.good("the waste helps", w.cheat(0), w, 6);
        due.good("within a row", w.cheatAt(0, 0), w, 0);
        due.good("it is 1 with 2", w.cheatAt(0, 1), w, 1);
    }
}
