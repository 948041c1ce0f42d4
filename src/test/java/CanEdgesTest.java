/** Boundary cases of promises 29 to 39: what can be. None of these calls changes anything. */
public final class CanEdgesTest {
    private static final int LEAST = Integer.MIN_VALUE;
    private static final int MOST = Integer.MAX_VALUE;
    private static final String TWELVE = "ranks 6;suit a;suit b;suit c;suit d;"
            + "row a 1 a 2 a 3 a 4 a 5 a 6 b 6 b 2 b 3 b 4 b 5 c 6;row c 1;row c 3 b 1;"
            + "stock d 6 d 5 d 4 d 3 d 2 d 1;";
    private static final Edge edge = new Edge();

    public static void main(String[] args) {
        promise29();
        promise30();
        promise31();
        promise32();
        promise33();
        promises34to36();
        overInTheWaste();
        promise37();
        promise38();
        promise39();
        edge.end("canMove", "moveAt", "runWater", "next", "nextAt", "over", "easiest", "wilts", "thirstiest");
    }

    private static void promise29() {
        edge.says("1 if a MOVE can be, else 0 (2).");
        edge.in(Edge::taped);
        int[] noSource = {-1, 3, 5, 7, 8, LEAST, MOST};
        for (int from : noSource) {
            edge.refused(2, "canMove", from, 7);
            edge.refused(2, "canMove", from, from);
        }
        int[] noTarget = {-1, 3, 5, 6, 8, LEAST, MOST};
        for (int to : noTarget) {
            edge.refused(2, "canMove", 0, to);
            edge.refused(2, "canMove", 6, to);
        }
        edge.asks(1, "canMove", 0, 7);
        edge.asks(0, "canMove", 1, 7);
        edge.asks(1, "canMove", 2, 7);
        edge.asks(0, "canMove", 6, 7);
        edge.asks(0, "canMove", 6, 0);
        edge.asks(0, "canMove", 0, 0);
        edge.in(Edge.of("suit a;row;row a 2;"));
        edge.asks(0, "canMove", 0, 0);
        edge.asks(0, "canMove", 0, 7);
        edge.asks(1, "canMove", 1, 0);
        edge.asks(0, "canMove", 1, 1);
        edge.in(WaterPatience::new);
        edge.asks(0, "canMove", 6, 7);
        edge.refused(2, "canMove", 0, 7);
        edge.refused(2, "canMove", 6, 0);
        edge.in(Edge::full);
        edge.asks(1, "canMove", 0, 5);
        edge.asks(0, "canMove", 5, 4);
        edge.refused(2, "canMove", 6, 6);
    }

    private static void promise30() {
        edge.says("How many MOVES can be.");
        edge.in(WaterPatience::new);
        edge.asks(0, "moves");
        edge.in(Edge.of("suit a;row a 2;"));
        edge.asks(0, "moves");
        edge.in(Edge.of("suit a;row a 1;"));
        edge.asks(1, "moves");
        edge.in(Edge::taped);
        edge.asks(2, "moves");
        // the waste and one row have a card that may come home; five rows are empty
        edge.in(() -> {
            WaterPatience x = Due.with("suit a;suit b;row;row;row;row;row;row a 1;stock b 1;");
            x.deal();
            return x;
        });
        edge.asks(5 + 1 + 5 + 1, "moves");
        // from five rows to the sixth, an empty one, from the waste to that one
        edge.in(() -> {
            WaterPatience x = Due.with("law 2;suit a;suit b;row a 3;row b 3;row b 4;row;row a 4 b 2;row b 1 a 1;stock a 2;");
            x.deal();
            return x;
        });
        // a 3 onto nothing but the empty row; b 3 also onto b 4; b 4; b 2 also onto b 3; a 1 home; a 2 onto a 3
        edge.asks(1 + 2 + 1 + 2 + 2 + 2, "moves");
    }

    private static void promise31() {
        edge.says("The k-th of them, in order, as 10 times the PLACE from where and that to where (8: no such).");
        edge.in(() -> {
            WaterPatience x = Due.with("suit a;suit b;row;row;row;row;row;row a 1;stock b 1;");
            x.deal();
            return x;
        });
        int[] want = {50, 51, 52, 53, 54, 57, 60, 61, 62, 63, 64, 67};
        for (int k = 0; k < want.length; k++) {
            edge.asks(want[k], "moveAt", k);
        }
        edge.refused(8, "moveAt", 12);
        edge.refused(8, "moveAt", -1);
        edge.refused(8, "moveAt", LEAST);
        edge.refused(8, "moveAt", MOST);
        manyMoves();
        edge.in(Edge.of("suit a;row a 1;row;"));
        edge.asks(1, "moveAt", 0);
        edge.asks(7, "moveAt", 1);
        edge.refused(8, "moveAt", 2);
        edge.in(Edge.of("suit a;row;row a 2;"));
        edge.asks(10, "moveAt", 0);
        edge.in(WaterPatience::new);
        edge.refused(8, "moveAt", 0);
        edge.refused(8, "moveAt", -1);
    }

    /** Two 2s and two 1s, each of which may come home or to one of three empty rows, the 1s onto the 2s, too. */
    private static void manyMoves() {
        edge.in(() -> {
            WaterPatience x = Due.with("law 1;suit a;suit b;suit c;suit d;row a 2 a 1;row b 2 b 1;row c 1;row;row;row;stock d 1;");
            x.move(0, 7);
            x.move(1, 7);
            x.deal();
            return x;
        });
        int[] want = {3, 4, 5, 7, 13, 14, 15, 17, 20, 21, 23, 24, 25, 27, 60, 61, 63, 64, 65, 67};
        edge.asks(20, "moves");
        for (int k = 0; k < 20; k++) {
            edge.asks(want[k], "moveAt", k);
        }
        edge.refused(8, "moveAt", 20);
        edge.asks(4, "yields", 3, 2);
    }

    private static void promise32() {
        edge.says("How many CARDS would come HOME by a RUN.");
        edge.in(WaterPatience::new);
        edge.asks(0, "runs");
        edge.in(Edge.of("suit a;row a 1 a 2;"));
        edge.asks(0, "runs");
        edge.in(Edge.of("ranks 6;suit a;suit b;row a 6 b 6 a 5 b 5 a 4 b 4 a 3 b 3 a 2 b 2 a 1 b 1;"));
        edge.asks(12, "runs");
        edge.in(Edge::taped);
        // hearts 1, clubs 1, clubs 2, hearts 2, clubs 3 from the waste, hearts 3
        edge.asks(6, "runs");
    }

    private static void promise33() {
        edge.says("RANKS of a SUIT that would come HOME by a RUN, together (2).");
        edge.asks(6, "runWater", 0);
        edge.asks(6, "runWater", 1);
        edge.refused(2, "runWater", -1);
        edge.refused(2, "runWater", 2);
        edge.refused(2, "runWater", LEAST);
        edge.refused(2, "runWater", MOST);
        edge.in(Edge.of("ranks 6;suit a;suit b;row a 6 a 5 a 4 a 3 a 2 a 1;row b 2;"));
        edge.asks(21, "runWater", 0);
        edge.asks(0, "runWater", 1);
        WaterPatience x = edge.gives(0, "move", 0, 7);
        edge.on(x, 20, "runWater", 0);
        x.run();
        edge.on(x, 0, "runWater", 0);
        edge.in(WaterPatience::new);
        edge.refused(2, "runWater", 0);
        edge.in(Edge::full);
        edge.gives(0, "runWater", 3);
        edge.refused(2, "runWater", 4);
    }

    private static void promises34to36() {
        edge.says("NEXT of a SUIT: the CARD that comes HOME next (none: all its RANKS are HOME, or that CARD is not there).");
        edge.in(Edge.of(TWELVE));
        next(0, 0, 0, 11);
        next(1, 6, 2, 0);
        next(2, 12, 1, 0);
        next(3, 18, 8, 5);
        for (int suit : new int[] {-1, 4, LEAST, MOST}) {
            for (String call : new String[] {"next", "nextAt", "over"}) {
                edge.refused(2, call, suit);
            }
        }
        edge.in(() -> {
            WaterPatience x = Due.with("ranks 2;suit a;suit b;suit c;row a 2 a 1;row b 1;row c 2;");
            x.run();
            return x;
        });
        for (String call : new String[] {"next", "nextAt", "over"}) {
            edge.refused(8, call, 0);
            edge.refused(8, call, 1);
            edge.refused(8, call, 2);
            edge.refused(2, call, 3);
        }
        edge.in(WaterPatience::new);
        for (String call : new String[] {"next", "nextAt", "over"}) {
            edge.refused(2, call, 0);
        }
        edge.in(() -> {
            WaterPatience x = Due.with("ranks 6;suit a;row a 5 a 4 a 3 a 2 a 1;stock a 6;");
            x.run();
            return x;
        });
        next(0, 5, 8, 0);
        // behind a 6 comes no b 1, though its number is the next one
        edge.in(() -> {
            WaterPatience x = Due.with("ranks 6;suit a;suit b;row b 2 a 6 a 5 a 4 a 3 a 2 a 1;row b 1 b 3;");
            x.run();
            return x;
        });
        for (String call : new String[] {"next", "nextAt", "over"}) {
            edge.refused(8, call, 0);
        }
        next(1, 6, 1, 1);
        edge.asks(1, "easiest");
    }

    private static void next(int suit, int card, int place, int over) {
        edge.asks(card, "next", suit);
        edge.asks(place, "nextAt", suit);
        edge.asks(over, "over", suit);
    }

    private static void overInTheWaste() {
        edge.says("OVER it: how many CARDS lie on it (in its ROW, or the WASTE; of the STOCK: how many must be dealt, itself "
                + "too, less 1).");
        String all = "ranks 6;suit a;suit b;suit c;suit d;stock a 1 a 2 a 3 a 4 a 5 a 6 b 2 b 3 b 4 b 5 b 6 "
                + "c 1 c 2 c 3 c 4 c 5 c 6 d 1 d 2 d 3 d 4 d 5 d 6 b 1;";
        edge.in(Edge.of(all));
        next(0, 0, 8, 0);
        next(1, 6, 8, 23);
        next(3, 18, 8, 17);
        edge.in(() -> {
            WaterPatience x = Due.with(all);
            x.deal();
            return x;
        });
        next(0, 0, 6, 0);
        next(1, 6, 8, 22);
        edge.in(() -> {
            WaterPatience x = Due.with(all);
            for (int i = 0; i < 24; i++) {
                x.deal();
            }
            return x;
        });
        next(0, 0, 6, 23);
        next(1, 6, 6, 0);
        next(3, 18, 6, 6);
        edge.says("Where NEXT lies: a ROW, 6 the WASTE, 8 the STOCK (2; 8).");
        edge.in(Edge.of("suit a;row;row;row;row;row;row a 1;"));
        next(0, 0, 5, 0);
    }

    private static void promise37() {
        edge.says("The SUIT whose NEXT has the fewest CARDS OVER it, of several the first (8: no SUIT has one).");
        edge.in(WaterPatience::new);
        edge.refused(8, "easiest");
        edge.in(Edge.of("suit a;suit b;row a 2;row b 2;"));
        edge.refused(8, "easiest");
        edge.in(() -> {
            WaterPatience x = Due.with("ranks 1;suit a;row a 1;");
            x.run();
            return x;
        });
        edge.refused(8, "easiest");
        edge.in(Edge.of("suit a;suit b;suit c;suit d;row d 1;"));
        edge.asks(3, "easiest");
        edge.in(Edge.of("suit a;suit b;suit c;suit d;row a 1 a 2;row b 1 b 2;row c 1 c 2;row d 1 d 2;"));
        edge.asks(0, "easiest");
        edge.in(Edge.of("suit a;suit b;suit c;suit d;row a 1 a 2;row b 1 b 2;row c 1 c 2;row d 1;"));
        edge.asks(3, "easiest");
        edge.in(Edge.of("suit a;suit b;suit c;row a 1 a 2;row b 1;stock c 1;"));
        edge.asks(1, "easiest");
        edge.in(Edge.of(TWELVE));
        edge.asks(1, "easiest");
    }

    private static void promise38() {
        edge.says("In how many DAYS a FIELD is WITHERED, if nothing comes HOME (1 to 9,999) (2; 8: never, or it is "
                + "WITHERED, ROTTEN).");
        edge.in(Edge::taped);
        edge.asks(2, "wilts", 0);
        edge.refused(8, "wilts", 1);
        edge.refused(8, "wilts", 2);
        edge.refused(2, "wilts", 3);
        edge.refused(2, "wilts", -1);
        edge.refused(2, "wilts", LEAST);
        edge.refused(2, "wilts", MOST);
        edge.in(Edge::full);
        edge.refused(8, "wilts", 0);
        int[] want = {11, 6, 4, 3, 3};
        for (int field = 1; field <= 5; field++) {
            edge.asks(want[field - 1], "wilts", field);
        }
        edge.refused(2, "wilts", 6);
        edge.in(Edge.of("suit a;field f of a dries 1 water 0;field g of a dries 1 water 99;field h of a dries 20 water 19;"
                + "field i of a dries 20 water 20;field j of a dries 20 water 99;field k of a dries 0 water 0;"));
        int[] days = {1, 100, 1, 2, 5};
        for (int field = 0; field < 5; field++) {
            edge.asks(days[field], "wilts", field);
            witherIn(field, days[field]);
        }
        edge.refused(8, "wilts", 5);
        edge.in(WaterPatience::new);
        edge.refused(2, "wilts", 0);
    }

    /** It is WITHERED by just so many DAYS, and not by one less. */
    private static void witherIn(int field, int days) {
        WaterPatience x = Due.with("suit a;field f of a dries 1 water 0;field g of a dries 1 water 99;"
                + "field h of a dries 20 water 19;field i of a dries 20 water 20;field j of a dries 20 water 99;");
        for (int day = 1; day <= days; day++) {
            edge.is("field " + field + " on DAY " + (day - 1), x.field(field, 4), 0);
            x.day(1);
        }
        edge.is("field " + field + " on DAY " + days, x.field(field, 4), 1);
    }

    private static void promise39() {
        edge.says("The FIELD that withers the soonest, of several the first (8: none does).");
        edge.in(WaterPatience::new);
        edge.refused(8, "thirstiest");
        edge.in(Edge.of("suit a;field f of a dries 0;field g of a dries 0 water 0;"));
        edge.refused(8, "thirstiest");
        edge.in(Edge.of("suit a;field f of a dries 0;field g of a dries 5;field h of a dries 4;field i of a dries 4;"));
        edge.asks(1, "thirstiest");
        edge.in(Edge.of("suit a;field f of a dries 5;field g of a dries 6;field h of a dries 4;"));
        edge.asks(1, "thirstiest");
        edge.in(Edge.of("suit a;field f of a dries 4;field g of a dries 5;"));
        edge.asks(0, "thirstiest");
        edge.in(Edge::full);
        edge.asks(4, "thirstiest");
        edge.in(Edge.of("suit a;field f of a dries 1;field g of a dries 1;field h of a dries 1;field i of a dries 1;"
                + "field j of a dries 1;field k of a dries 1 water 9;"));
        edge.asks(5, "thirstiest");
        edge.in(Edge::taped);
        edge.asks(0, "thirstiest");
        WaterPatience x = edge.gives(0, "day", 2);
        edge.refusedOn(x, 8, "thirstiest");
    }
}
