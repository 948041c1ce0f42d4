/** Boundary cases of promises 13 to 20: what there is. */
public final class ThereEdgesTest {
    private static final int LEAST = Integer.MIN_VALUE;
    private static final int MOST = Integer.MAX_VALUE;
    /** A row of 12 with b 6 on top, one of 0, one of 1, and a stock of 11. */
    private static final String TALL = "ranks 6;suit a;suit b;suit c;suit d;"
            + "row a 1 a 2 a 3 a 4 a 5 a 6 b 1 b 2 b 3 b 4 b 5 b 6;row;row c 6;"
            + "stock c 1 c 2 c 3 c 4 c 5 d 1 d 2 d 3 d 4 d 5 d 6;";
    private static final Edge edge = new Edge();

    public static void main(String[] args) {
        promise13();
        mostOfAll();
        promise14();
        promise15();
        promise16();
        promise17();
        promise18();
        promise19();
        promise20();
        edge.end("many", "card", "length", "topOf", "stockAt", "homeOf", "field", "copyRow");
    }

    private static void promise13() {
        edge.in(Edge::taped);
        edge.says("RANKS (what 0), SUITS (1), LAW (2), REDEALS left (3), ROWS (4), FIELDS (5), the DAY (6); "
                + "CARDS in the STOCK (7), the WASTE (8), HOME (9), in ROWS (10); sets of FIELDS (1 for FIELD 0 ..) that "
                + "are WITHERED (11), ROTTEN (12); the set of SUITS that are RED (13) (5).");
        int[] want = {3, 2, 1, 1, 3, 3, 1, 0, 1, 0, 5, 2, 4, 1};
        for (int what = 0; what <= 13; what++) {
            edge.asks(want[what], "many", what);
        }
        edge.refused(5, "many", -1);
        edge.refused(5, "many", 14);
        edge.refused(5, "many", LEAST);
        edge.refused(5, "many", MOST);
    }

    /** The greatest answers that there can be. */
    private static void mostOfAll() {
        edge.says("sets of FIELDS (1 for FIELD 0 ..) that are WITHERED (11), ROTTEN (12)");
        StringBuilder fields = new StringBuilder("suit a red;suit b red;suit c red;suit d red;row a 1;");
        for (char name = 'f'; name < 'l'; name++) {
            fields.append("field ").append(name).append(" of a dries 11 high 10;");
        }
        WaterPatience dry = Due.with(fields.toString());
        dry.day(1);
        edge.on(dry, 63, "many", 11);
        edge.on(dry, 0, "many", 12);
        edge.on(dry, 15, "many", 13);
        WaterPatience rotten = Due.with(fields.toString());
        rotten.run();
        edge.on(rotten, 63, "many", 12);
        edge.on(rotten, 0, "many", 11);
        edge.says("CARDS in the STOCK (7), the WASTE (8), HOME (9), in ROWS (10)");
        WaterPatience x = Due.with("ranks 6;suit a;suit b;suit c;suit d;");
        x.shuffle(0);
        edge.on(x, 24, "many", 7);
        int last = x.stockAt(23);
        for (int i = 0; i < 24; i++) {
            x.deal();
        }
        edge.on(x, 0, "many", 7);
        edge.on(x, 24, "many", 8);
        edge.on(x, last, "topOf", 6);
        WaterPatience home = Due.with("ranks 6;suit a;suit b;row a 6 a 5 a 4 a 3 a 2 a 1;row b 6 b 5 b 4 b 3 b 2 b 1;");
        edge.on(home, 12, "many", 10);
        home.run();
        edge.on(home, 12, "many", 9);
        edge.on(home, 0, "many", 10);
        edge.says("DAY (to 9,999)");
        WaterPatience late = new WaterPatience();
        for (int i = 0; i < 101; i++) {
            late.day(99);
        }
        edge.on(late, 9999, "many", 6);
    }

    private static void promise14() {
        edge.says("The k-th CARD of a ROW, from the lowest (0) on (2; 8: no such).");
        edge.in(Edge.of(TALL));
        edge.asks(0, "card", 0, 0);
        edge.asks(11, "card", 0, 11);
        edge.refused(8, "card", 0, 12);
        edge.refused(8, "card", 0, -1);
        edge.refused(8, "card", 0, LEAST);
        edge.refused(8, "card", 0, MOST);
        edge.refused(8, "card", 1, 0);
        edge.asks(17, "card", 2, 0);
        edge.refused(8, "card", 2, 1);
        edge.refused(2, "card", 3, 0);
        edge.refused(2, "card", -1, 0);
        edge.refused(2, "card", 6, 0);
        edge.refused(2, "card", 3, -1);
        edge.refused(2, "card", LEAST, 0);
        edge.refused(2, "card", MOST, MOST);
        edge.in(Edge::full);
        edge.refused(8, "card", 5, 0);
        edge.refused(2, "card", 6, 0);
    }

    private static void promise15() {
        edge.says("How many CARDS a ROW has (2).");
        edge.in(Edge.of(TALL));
        edge.asks(12, "length", 0);
        edge.asks(0, "length", 1);
        edge.asks(1, "length", 2);
        edge.refused(2, "length", 3);
        edge.refused(2, "length", -1);
        edge.refused(2, "length", LEAST);
        edge.refused(2, "length", MOST);
        edge.in(Edge::full);
        edge.asks(0, "length", 5);
        edge.refused(2, "length", 6);
        edge.in(Edge.of(""));
        edge.refused(2, "length", 0);
    }

    private static void promise16() {
        edge.says("The top CARD of a PLACE (0 to 6) (2; 8: none).");
        edge.in(Edge.of(TALL));
        edge.asks(11, "topOf", 0);
        edge.refused(8, "topOf", 1);
        edge.asks(17, "topOf", 2);
        edge.refused(2, "topOf", 3);
        edge.refused(2, "topOf", 5);
        edge.refused(8, "topOf", 6);
        edge.refused(2, "topOf", 7);
        edge.refused(2, "topOf", 8);
        edge.refused(2, "topOf", -1);
        edge.refused(2, "topOf", LEAST);
        edge.refused(2, "topOf", MOST);
        edge.in(Edge::taped);
        edge.asks(8, "topOf", 6);
        edge.in(Edge::full);
        edge.refused(8, "topOf", 5);
        WaterPatience x = Edge.full();
        int card = x.topOf(0);
        edge.on(x, card, "move", 0, 5);
        edge.on(x, card, "topOf", 5);
        edge.refusedOn(x, 2, "topOf", 7);
    }

    private static void promise17() {
        edge.says("The k-th CARD of the STOCK, the next one is 0 (8: no such).");
        edge.in(Edge.of(TALL));
        edge.asks(12, "stockAt", 0);
        edge.asks(23, "stockAt", 10);
        edge.refused(8, "stockAt", 11);
        edge.refused(8, "stockAt", -1);
        edge.refused(8, "stockAt", LEAST);
        edge.refused(8, "stockAt", MOST);
        WaterPatience x = Due.with(TALL);
        x.deal();
        edge.on(x, 13, "stockAt", 0);
        edge.on(x, 23, "stockAt", 9);
        edge.refusedOn(x, 8, "stockAt", 10);
        edge.refusedOn(x, 8, "stockAt", -1);
        for (int i = 0; i < 10; i++) {
            x.deal();
        }
        edge.refusedOn(x, 8, "stockAt", 0);
        edge.in(Edge.of(""));
        edge.refused(8, "stockAt", 0);
    }

    private static void promise18() {
        edge.says("How many CARDS of a SUIT are HOME (2).");
        edge.in(Edge.of("ranks 6;suit a;suit b;row a 6 a 5 a 4 a 3 a 2 a 1;"));
        edge.asks(0, "homeOf", 0);
        WaterPatience x = edge.gives(6, "run");
        edge.on(x, 6, "homeOf", 0);
        edge.on(x, 0, "homeOf", 1);
        edge.refused(2, "homeOf", 2);
        edge.refused(2, "homeOf", -1);
        edge.refused(2, "homeOf", LEAST);
        edge.refused(2, "homeOf", MOST);
        edge.in(Edge::full);
        edge.asks(0, "homeOf", 3);
        edge.refused(2, "homeOf", 4);
        edge.in(Edge.of(""));
        edge.refused(2, "homeOf", 0);
    }

    private static void promise19() {
        edge.says("Of a FIELD, what 0: its SUIT, 1: what it DRIES, 2: WATER, 3: HIGH, 4: 0 if it is neither, 1 WITHERED, "
                + "2 ROTTEN (2; 5).");
        edge.in(Edge::taped);
        int[][] want = {{0, 2, 3, 20, 0}, {1, 3, 0, 99, 1}, {1, 0, 102, 99, 2}};
        for (int field = 0; field < 3; field++) {
            for (int what = 0; what <= 4; what++) {
                edge.asks(want[field][what], "field", field, what);
            }
            edge.refused(5, "field", field, -1);
            edge.refused(5, "field", field, 5);
        }
        edge.refused(5, "field", 0, LEAST);
        edge.refused(5, "field", 0, MOST);
        edge.refused(2, "field", -1, 0);
        edge.refused(2, "field", 3, 0);
        edge.refused(2, "field", 3, 5);
        edge.refused(2, "field", -1, -1);
        edge.refused(2, "field", LEAST, 0);
        edge.refused(2, "field", MOST, 0);
        edge.in(Edge::full);
        edge.asks(1, "field", 5, 0);
        edge.asks(5, "field", 5, 1);
        edge.refused(2, "field", 6, 0);
        edge.in(Edge.of(""));
        edge.refused(2, "field", 0, 0);
    }

    /** Tray 0 has room for 12, 1 for 11, 2 for none, 3 is MISSING. */
    private static WaterPatience withTrays() {
        WaterPatience x = Due.with(TALL);
        x.tray(0, 0, 13);
        x.tray(1, 3, 11);
        x.tray(2, 1, 0);
        x.write(0, 0, 99);
        x.write(0, 12, 99);
        x.write(1, 0, 99);
        return x;
    }

    private static void promise20() {
        edge.says("The CARDS of a ROW come to a TRAY: how many (1; 2; 3; 4).");
        edge.in(ThereEdgesTest::withTrays);
        WaterPatience x = edge.gives(12, "copyRow", 0, 0);
        for (int k = 0; k < 12; k++) {
            edge.on(x, k, "read", 0, k);
        }
        edge.on(x, 99, "read", 0, 12);
        edge.on(x, 12, "length", 0);
        x.tray(3, 2, 12);
        edge.on(x, 12, "copyRow", 0, 3);
        edge.on(x, 11, "read", 3, 11);
        edge.refused(4, "copyRow", 0, 1);
        edge.refused(4, "copyRow", 0, 2);
        edge.refused(4, "copyRow", 2, 2);
        edge.asks(0, "copyRow", 1, 2);
        edge.asks(0, "copyRow", 1, 0);
        WaterPatience one = edge.gives(1, "copyRow", 2, 1);
        edge.on(one, 17, "read", 1, 0);
        edge.on(one, 0, "read", 1, 1);
        edge.refused(3, "copyRow", 0, 3);
        edge.refused(3, "copyRow", 1, 3);
        edge.refused(2, "copyRow", 3, 0);
        edge.refused(2, "copyRow", -1, 0);
        edge.refused(2, "copyRow", 3, 3);
        edge.refused(2, "copyRow", MOST, 0);
        edge.refused(2, "copyRow", LEAST, 2);
        edge.refused(1, "copyRow", 0, 4);
        edge.refused(1, "copyRow", 0, -1);
        edge.refused(1, "copyRow", 3, 4);
        edge.refused(1, "copyRow", 0, MOST);
        edge.refused(1, "copyRow", LEAST, LEAST);
    }
}
