/** Boundary cases of promises 21 to 28, and of part 2 of the terms: what is done. */
public final class DoneEdgesTest {
    private static final int LEAST = Integer.MIN_VALUE;
    private static final int MOST = Integer.MAX_VALUE;
    private static final Edge edge = new Edge();

    public static void main(String[] args) {
        placesOfMoves();
        home();
        ontoRows();
        laws();
        fullRow();
        watering();
        promise22();
        redeals();
        promise23();
        promise24();
        lastDay();
        promise25();
        promise26();
        promise27();
        promise28();
        dealtAnew();
        edge.end("move", "deal", "day", "rain", "rule", "sow", "shuffle");
    }

    private static void placesOfMoves() {
        edge.says("(from where: a ROW that there is, or 6; where to: a ROW that there is, or 7; others are no such PLACE)");
        edge.in(Edge::taped);
        int[] noSource = {-1, 3, 4, 5, 7, 8, LEAST, MOST};
        for (int from : noSource) {
            edge.refused(2, "move", from, 7);
            edge.refused(2, "move", from, 0);
            edge.refused(2, "move", from, from);
        }
        int[] noTarget = {-1, 3, 4, 5, 6, 8, LEAST, MOST};
        for (int to : noTarget) {
            edge.refused(2, "move", 0, to);
            edge.refused(2, "move", 6, to);
        }
        edge.says("MOVE: the CARD (2; 9: onto itself, too).");
        edge.refused(9, "move", 0, 0);
        edge.refused(9, "move", 1, 1);
        edge.refused(9, "move", 2, 2);
        edge.gives(0, "move", 0, 7);
        edge.gives(6, "move", 2, 7);
        edge.refused(9, "move", 6, 7);
        edge.in(Edge.of("suit a;row;row a 1;"));
        edge.refused(9, "move", 0, 0);
        edge.refused(9, "move", 0, 1);
        edge.refused(9, "move", 0, 7);
        edge.refused(9, "move", 6, 0);
        edge.refused(9, "move", 6, 7);
        edge.refused(9, "move", 1, 1);
        edge.in(WaterPatience::new);
        edge.refused(2, "move", 0, 7);
        edge.refused(2, "move", 6, 0);
        edge.refused(9, "move", 6, 7);
        WaterPatience six = Edge.full();
        int card = six.topOf(3);
        edge.on(six, card, "move", 3, 5);
        edge.refusedOn(six, 2, "move", 5, 6);
    }

    private static void home() {
        edge.says("HOME: of each SUIT a pile that begins with RANK 1 and goes up by one.");
        edge.in(Edge.of("ranks 6;suit a;suit b;row a 1;row a 2;row a 3;row b 1;row b 6;row b 5;stock a 6 a 5 a 4;"));
        edge.refused(9, "move", 1, 7);
        edge.refused(9, "move", 2, 7);
        edge.refused(9, "move", 4, 7);
        WaterPatience x = edge.gives(0, "move", 0, 7);
        edge.refusedOn(x, 9, "move", 2, 7);
        edge.on(x, 1, "move", 1, 7);
        edge.on(x, 2, "move", 2, 7);
        edge.on(x, 6, "move", 3, 7);
        edge.refusedOn(x, 9, "move", 4, 7);
        x.deal();
        edge.refusedOn(x, 9, "move", 6, 7);
        x.deal();
        edge.refusedOn(x, 9, "move", 6, 7);
        x.deal();
        edge.on(x, 3, "move", 6, 7);
        edge.on(x, 4, "move", 6, 7);
        edge.on(x, 5, "move", 6, 7);
        edge.on(x, 6, "homeOf", 0);
        edge.on(x, 1, "homeOf", 1);
        edge.refusedOn(x, 9, "move", 6, 7);
    }

    private static void ontoRows() {
        edge.says("or to another ROW, if that is empty");
        edge.in(Edge.of("ranks 6;law 2;suit a;suit b;row a 1 b 6;row;row a 6;"));
        WaterPatience x = edge.gives(11, "move", 0, 1);
        edge.on(x, 1, "length", 0);
        edge.on(x, 1, "length", 1);
        WaterPatience alone = edge.gives(5, "move", 2, 1);
        edge.on(alone, 0, "length", 2);
        edge.on(alone, 5, "move", 1, 2);
        edge.refused(9, "move", 1, 0);
        edge.refused(9, "move", 0, 2);
    }

    private static void laws() {
        edge.says("or by LAW: its RANK is one less than that of the ROW's top CARD, and (LAW 0) they are of unlike colours, "
                + "(LAW 2) of the same SUIT, (LAW 1) of any");
        // from row 0 to a card of the same suit, of the same colour, of the other colour
        boolean[][] may = {{false, false, true}, {true, true, true}, {true, false, false}};
        for (int law = 0; law <= 2; law++) {
            for (int rank = 1; rank <= 6; rank++) {
                if (rank != 3) {
                    String[] tops = {"a " + rank, "b " + rank, "c " + rank};
                    for (int other = 0; other < 3; other++) {
                        edge.in(Edge.of("ranks 6;suit a;suit b;suit c red;law " + law + ";row a 3;row " + tops[other] + ";"));
                        if (rank == 4 && may[law][other]) {
                            edge.gives(2, "move", 0, 1);
                        } else {
                            edge.refused(9, "move", 0, 1);
                        }
                    }
                }
            }
            edge.in(Edge.of("suit a;suit b;suit c red;law " + law + ";row a 3;row b 3;row c 3;"));
            edge.refused(9, "move", 0, 1);
            edge.refused(9, "move", 0, 2);
        }
        edge.in(Edge.of("suit a red;suit b red;row a 3;row b 4;"));
        edge.refused(9, "move", 0, 1);
        edge.in(Edge.of("suit a;suit b red;row a 4;stock b 3;"));
        WaterPatience x = edge.gives(8, "deal");
        edge.on(x, 8, "move", 6, 0);
    }

    private static void fullRow() {
        edge.says("a ROW has 12 CARDS at most.");
        String eleven = "ranks 6;law 1;suit a;suit b;suit c;row a 1 a 2 a 3 a 4 a 5 a 6 b 2 b 3 b 4 b 5 ";
        edge.in(Edge.of(eleven + "b 6;row c 5;"));
        WaterPatience x = edge.gives(16, "move", 1, 0);
        edge.on(x, 12, "length", 0);
        edge.in(Edge.of(eleven + "b 1 b 6;row c 5;stock c 4;"));
        edge.refused(9, "move", 1, 0);
        WaterPatience y = edge.gives(15, "deal");
        edge.refusedOn(y, 9, "move", 6, 0);
        edge.on(y, 0, "canMove", 6, 0);
        edge.on(y, 12, "length", 0);
        WaterPatience home = Due.with("ranks 6;law 1;suit a;suit b;suit c;row c 1;"
                + "row a 6 a 5 a 4 a 3 a 2 b 6 b 5 b 4 b 3 b 2 b 1 a 1;");
        edge.on(home, 0, "move", 1, 7);
        edge.on(home, 11, "length", 1);
    }

    private static void watering() {
        edge.says("What comes HOME waters each FIELD of its SUIT that is neither WITHERED nor ROTTEN by its RANK; above HIGH "
                + "it is ROTTEN at once.");
        WaterPatience x = Due.with("ranks 6;suit a;suit b;row b 1 a 6 a 5 a 4 a 3 a 2 a 1;"
                + "field f of a dries 0 water 0 high 21;field g of a dries 0 water 0 high 20;field h of b dries 0;"
                + "field i of a dries 5 water 4;field j of a dries 0 water 99;field k of a dries 0 water 50 high 1;");
        x.day(1);
        edge.on(x, 8, "many", 11);
        int sum = 0;
        for (int rank = 1; rank <= 6; rank++) {
            sum += rank;
            edge.on(x, rank - 1, "move", 0, 7);
            edge.on(x, sum, "field", 0, 2);
            edge.on(x, sum, "field", 1, 2);
            edge.on(x, sum > 20 ? 2 : 0, "field", 1, 4);
            edge.on(x, 0, "field", 0, 4);
            edge.on(x, 10, "field", 2, 2);
            edge.on(x, 0, "field", 3, 2);
            edge.on(x, 100, "field", 4, 2);
            edge.on(x, 2, "field", 4, 4);
            edge.on(x, 51, "field", 5, 2);
            edge.on(x, 2, "field", 5, 4);
        }
        edge.on(x, 50, "many", 12);
        edge.on(x, 6, "move", 0, 7);
        edge.on(x, 11, "field", 2, 2);
        edge.on(x, 21, "field", 0, 2);
    }

    private static void promise22() {
        edge.says("DEAL: the CARD, or NONE with STATUS 0 for a REDEAL (9).");
        edge.in(WaterPatience::new);
        edge.refused(9, "deal");
        edge.in(Edge.of("suit a;redeals 9;row a 1;"));
        edge.refused(9, "deal");
        edge.in(Edge.of("suit a;row a 1;stock a 2;"));
        WaterPatience x = edge.gives(1, "deal");
        edge.on(x, 1, "topOf", 6);
        edge.on(x, 0, "many", 7);
        edge.refusedOn(x, 9, "deal");
        edge.on(x, 1, "many", 8);
        edge.in(Edge.of("suit a;redeals 1;row a 1;stock a 2;"));
        WaterPatience y = edge.gives(1, "deal");
        edge.on(y, -1, "deal");
        edge.on(y, 0, "many", 8);
        edge.on(y, 1, "many", 7);
        edge.on(y, 0, "many", 3);
        edge.refusedOn(y, 8, "topOf", 6);
        edge.on(y, 1, "deal");
        edge.refusedOn(y, 9, "deal");
    }

    private static void redeals() {
        edge.says("if the STOCK is empty, and a REDEAL is left, and the WASTE is not empty: the WASTE is the STOCK again "
                + "(what was dealt first is first), and a REDEAL less (no CARD is dealt by that).");
        edge.in(() -> {
            WaterPatience x = Due.with("suit a;redeals 2;row;stock a 1;");
            x.deal();
            x.move(6, 0);
            return x;
        });
        edge.refused(9, "deal");
        WaterPatience nine = Due.with("suit a;redeals 9;row;stock a 3 a 2 a 4;");
        for (int left = 9; left >= 0; left--) {
            edge.on(nine, left, "many", 3);
            edge.on(nine, 2, "deal");
            edge.on(nine, 1, "deal");
            edge.on(nine, 3, "deal");
            if (left > 0) {
                edge.on(nine, -1, "deal");
            }
        }
        edge.refusedOn(nine, 9, "deal");
        edge.on(nine, 0, "many", 3);
        edge.on(nine, 3, "many", 8);
        WaterPatience all = Due.with("ranks 6;redeals 2;suit a;suit b;suit c;suit d;");
        all.shuffle(77);
        int[] cards = new int[24];
        for (int k = 0; k < 24; k++) {
            cards[k] = all.stockAt(k);
        }
        for (int times = 0; times < 2; times++) {
            for (int k = 0; k < 24; k++) {
                edge.on(all, cards[k], "deal");
            }
            edge.on(all, -1, "deal");
        }
        edge.on(all, 24, "many", 7);
        WaterPatience row = Due.with("ranks 6;suit a;suit b;suit c;suit d;row;stock a 1 a 2 a 3 a 4 a 5 a 6 b 2 b 3 b 4 b 5 "
                + "b 6 c 1 c 2 c 3 c 4 c 5 c 6 d 1 d 2 d 3 d 4 d 5 d 6 b 1;");
        for (int k = 0; k < 24; k++) {
            row.deal();
        }
        edge.on(row, 6, "move", 6, 0);
        edge.on(row, 23, "topOf", 6);
        edge.on(row, 6, "move", 0, 7);
    }

    private static void promise23() {
        edge.says("RUN: how many CARDS came HOME.");
        edge.in(WaterPatience::new);
        edge.asks(0, "run");
        edge.in(Edge.of("suit a;suit b;row a 2;row b 1 a 1 b 3;stock b 2;"));
        edge.asks(0, "run");
        edge.in(Edge.of("ranks 6;suit a;suit b;suit c;suit d;"
                + "row a 6 b 6 c 6 d 6 a 5 b 5 c 5 d 5 a 4 b 4 c 4 d 4;row a 3 b 3 c 3 d 3 a 2 b 2 c 2 d 2 a 1 b 1 c 1 d 1;"));
        WaterPatience x = edge.gives(24, "run");
        edge.on(x, 24, "many", 9);
        edge.on(x, 0, "run");
        waterOfRuns();
        edge.says("as long as some top CARD (of ROWS, the WASTE) can come HOME, it does");
        WaterPatience y = Due.with("suit a;suit b;row a 3;row b 1;stock a 4 a 2 a 1;");
        edge.on(y, 1, "run");
        y.deal();
        y.deal();
        edge.on(y, 0, "run");
        y.deal();
        edge.on(y, 4, "run");
        edge.on(y, 0, "many", 8);
        edge.on(y, 0, "many", 10);
    }

    /** A RUN waters by what comes HOME by it, and not by what was there already. */
    private static void waterOfRuns() {
        edge.says("What comes HOME waters each FIELD of its SUIT");
        WaterPatience x = Due.with("suit a;suit b;row a 3 a 2 a 1;row b 2;field f of a dries 0 water 0;"
                + "field g of b dries 0 water 20 high 10;");
        edge.on(x, 0, "move", 0, 7);
        edge.on(x, 1, "field", 0, 2);
        edge.on(x, 2, "run");
        edge.on(x, 6, "field", 0, 2);
        edge.on(x, 0, "run");
        edge.on(x, 6, "field", 0, 2);
        edge.on(x, 20, "field", 1, 2);
        edge.on(x, 0, "field", 1, 4);
    }

    private static void promise24() {
        edge.says("So many DAYS (1 to 99): the set of FIELDS that are neither WITHERED nor ROTTEN then (5; 7: above 9,999).");
        edge.in(Edge::taped);
        edge.refused(5, "day", 0);
        edge.refused(5, "day", -1);
        edge.refused(5, "day", 100);
        edge.refused(5, "day", LEAST);
        edge.refused(5, "day", MOST);
        WaterPatience x = edge.gives(1, "day", 1);
        edge.on(x, 2, "many", 6);
        edge.on(x, 1, "field", 0, 2);
        WaterPatience y = edge.gives(0, "day", 99);
        edge.on(y, 100, "many", 6);
        edge.on(y, 3, "many", 11);
        edge.on(y, 102, "field", 2, 2);
        edge.in(Edge::full);
        edge.gives(63, "day", 1);
        edge.gives(63, "day", 2);
        edge.gives(15, "day", 3);
        edge.gives(1, "day", 99);
        edge.says("each FIELD neither WITHERED nor ROTTEN has so much less WATER as it DRIES; below 0 it is WITHERED "
                + "(its WATER is 0).");
        edge.in(Edge.of("suit a;field f of a dries 5;field g of a dries 20 water 99;field h of a dries 1 water 0;"));
        WaterPatience z = edge.gives(3, "day", 2);
        edge.on(z, 0, "field", 0, 2);
        edge.on(z, 0, "field", 0, 4);
        edge.on(z, 59, "field", 1, 2);
        edge.on(z, 1, "field", 2, 4);
        edge.on(z, 2, "day", 1);
        edge.on(z, 0, "field", 0, 2);
        edge.on(z, 1, "field", 0, 4);
        edge.on(z, 39, "field", 1, 2);
        edge.on(z, 0, "day", 2);
        edge.on(z, 0, "field", 1, 2);
    }

    /** A new object is taken to a DAY. */
    private static WaterPatience onDay(int day) {
        WaterPatience x = Due.with("suit a;field f of a dries 0;field g of a dries 1 water 0;");
        x.mark();
        while (x.many(6) < day) {
            x.day(Math.min(99, day - x.many(6)));
        }
        return x;
    }

    private static void lastDay() {
        edge.says("DAY (to 9,999)");
        edge.in(() -> onDay(9998));
        WaterPatience x = edge.gives(1, "day", 1);
        edge.on(x, 9999, "many", 6);
        edge.refused(7, "day", 2);
        edge.refused(7, "day", 99);
        edge.refused(5, "day", 100);
        edge.refused(5, "day", 0);
        edge.in(() -> onDay(9900));
        edge.on(edge.gives(1, "day", 99), 9999, "many", 6);
        edge.refused(5, "day", 100);
        edge.in(() -> onDay(9901));
        edge.on(edge.gives(1, "day", 98), 9999, "many", 6);
        edge.refused(7, "day", 99);
        edge.in(() -> onDay(9999));
        edge.refused(7, "day", 1);
        edge.refused(5, "day", -1);
    }

    private static void promise25() {
        edge.says("Rain: a FIELD gets so much WATER (1 to 99), as from a CARD: WATER then (2; 5; 9: WITHERED, ROTTEN).");
        edge.in(Edge::taped);
        edge.gives(4, "rain", 0, 1);
        WaterPatience high = edge.gives(20, "rain", 0, 17);
        edge.on(high, 0, "field", 0, 4);
        edge.on(high, 21, "rain", 0, 1);
        edge.on(high, 2, "field", 0, 4);
        WaterPatience above = edge.gives(21, "rain", 0, 18);
        edge.on(above, 2, "field", 0, 4);
        edge.on(above, 21, "field", 0, 2);
        edge.refusedOn(above, 9, "rain", 0, 1);
        WaterPatience most = edge.gives(102, "rain", 0, 99);
        edge.on(most, 2, "field", 0, 4);
        edge.refused(5, "rain", 0, 0);
        edge.refused(5, "rain", 0, -1);
        edge.refused(5, "rain", 0, 100);
        edge.refused(5, "rain", 0, LEAST);
        edge.refused(5, "rain", 0, MOST);
        edge.refused(9, "rain", 1, 1);
        edge.refused(9, "rain", 2, 1);
        edge.refused(5, "rain", 1, 0);
        edge.refused(5, "rain", 2, 100);
        edge.refused(2, "rain", 3, 1);
        edge.refused(2, "rain", -1, 1);
        edge.refused(2, "rain", 3, 0);
        edge.refused(2, "rain", LEAST, 1);
        edge.refused(2, "rain", MOST, MOST);
        edge.in(Edge::full);
        edge.gives(11, "rain", 5, 1);
        edge.on(edge.gives(99, "rain", 0, 89), 0, "many", 12);
        edge.on(edge.gives(100, "rain", 0, 90), 1, "many", 12);
        edge.refused(2, "rain", 6, 1);
    }

    private static void promise26() {
        edge.says("LAW from now on (0 to 2) (5).");
        edge.in(Edge::taped);
        for (int law = 0; law <= 2; law++) {
            edge.on(edge.gives(1, "rule", law), law, "many", 2);
        }
        edge.refused(5, "rule", -1);
        edge.refused(5, "rule", 3);
        edge.refused(5, "rule", LEAST);
        edge.refused(5, "rule", MOST);
    }

    private static void promise27() {
        edge.says("A FIELD is sown anew of a SUIT: WATER 10, neither WITHERED nor ROTTEN (2). "
                + "(Above HIGH it stays till it is watered.)");
        edge.in(Edge::taped);
        int[][] was = {{2, 20}, {3, 99}, {0, 99}};
        for (int field = 0; field <= 2; field++) {
            for (int suit = 0; suit <= 1; suit++) {
                WaterPatience x = edge.gives(1, "sow", field, suit);
                int[] want = {suit, was[field][0], 10, was[field][1], 0};
                for (int what = 0; what <= 4; what++) {
                    edge.on(x, want[what], "field", field, what);
                }
                edge.on(x, field == 1 ? 0 : 2, "many", 11);
                edge.on(x, field == 2 ? 0 : 4, "many", 12);
            }
        }
        edge.refused(2, "sow", -1, 0);
        edge.refused(2, "sow", 3, 0);
        edge.refused(2, "sow", 0, -1);
        edge.refused(2, "sow", 0, 2);
        edge.refused(2, "sow", 3, 2);
        edge.refused(2, "sow", LEAST, MOST);
        edge.refused(2, "sow", MOST, LEAST);
        edge.in(Edge.of("suit a;row a 1;field f of a dries 3 high 9;field g of a dries 0 high 10;"));
        WaterPatience dry = edge.gives(1, "sow", 0, 0);
        edge.on(dry, 0, "field", 0, 4);
        edge.on(dry, 3, "day", 1);
        edge.on(dry, 7, "field", 0, 2);
        edge.on(dry, 9, "rain", 0, 2);
        edge.on(dry, 0, "field", 0, 4);
        WaterPatience wet = edge.gives(1, "sow", 0, 0);
        edge.on(wet, 0, "move", 0, 7);
        edge.on(wet, 11, "field", 0, 2);
        edge.on(wet, 3, "many", 12);
        edge.in(Edge::full);
        edge.on(edge.gives(1, "sow", 5, 3), 3, "field", 5, 0);
        edge.refused(2, "sow", 6, 3);
        edge.refused(2, "sow", 5, 4);
    }

    private static void promise28() {
        edge.says("All CARDS are dealt anew as a PACK by a seed: how many there are (5).");
        edge.in(Edge::taped);
        edge.gives(6, "shuffle", 0);
        edge.gives(6, "shuffle", 9999);
        edge.refused(5, "shuffle", -1);
        edge.refused(5, "shuffle", 10000);
        edge.refused(5, "shuffle", LEAST);
        edge.refused(5, "shuffle", MOST);
        edge.says("HOME, the WASTE are empty then; FIELDS, REDEALS stay.");
        WaterPatience x = Edge.taped();
        x.run();
        int[] water = {x.field(0, 2), x.field(1, 2), x.field(2, 2)};
        edge.on(x, 6, "shuffle", 123);
        int[] want = {3, 2, 1, 1, 3, 3, 1, 0, 0, 0, 6, 2, 4, 1};
        for (int what = 0; what <= 13; what++) {
            edge.on(x, want[what], "many", what);
        }
        for (int field = 0; field < 3; field++) {
            edge.on(x, water[field], "field", field, 2);
        }
        edge.in(WaterPatience::new);
        edge.asks(0, "shuffle", 0);
        edge.refused(5, "shuffle", 10000);
        edge.in(Edge::full);
        edge.on(edge.gives(24, "shuffle", 9999), 3, "many", 7);
    }

    private static void dealtAnew() {
        edge.says("then ROW 0 gets the first CARD, ROW 1 the next two, ROW 2 three, as many ROWS as there are (as long as "
                + "there are CARDS), the rest is the STOCK.");
        String names = "abcd";
        for (int suits = 0; suits <= 4; suits++) {
            for (int ranks = 1; ranks <= 6; ranks++) {
                for (int rows = 0; rows <= 6; rows++) {
                    StringBuilder text = new StringBuilder("ranks " + ranks + ";" + Due.times("row;", rows));
                    for (int suit = 0; suit < suits; suit++) {
                        text.append("suit ").append(names.charAt(suit)).append(';');
                    }
                    WaterPatience x = Due.with(text.toString());
                    int seed = (suits * 42 + ranks * 7 + rows) * 47 % 10000;
                    edge.on(x, suits * ranks, "shuffle", seed);
                    lies(x, deck(suits, ranks, seed), rows);
                }
            }
        }
    }

    /** A PACK by the document's words. */
    private static int[] deck(int suits, int ranks, int seed) {
        int[] deck = new int[suits * ranks];
        for (int i = 0; i < deck.length; i++) {
            deck[i] = 6 * (i / ranks) + i % ranks;
        }
        long s = seed;
        for (int k = deck.length - 1; k >= 1; k--) {
            s = (s * 2971 + 10711) % 65536;
            int other = (int) (s / 8 % (k + 1));
            int card = deck[k];
            deck[k] = deck[other];
            deck[other] = card;
        }
        return deck;
    }

    private static void lies(WaterPatience x, int[] deck, int rows) {
        int at = 0;
        for (int row = 0; row < rows; row++) {
            int many = Math.min(row + 1, deck.length - at);
            edge.on(x, many, "length", row);
            for (int k = 0; k < many; k++) {
                edge.on(x, deck[at], "card", row, k);
                at++;
            }
        }
        edge.on(x, deck.length - at, "many", 7);
        for (int k = 0; at + k < deck.length; k++) {
            edge.on(x, deck[at + k], "stockAt", k);
        }
    }
}
