/** Promises 21 to 28: what is done. */
public final class DoneTest {
    private static final Due due = new Due();

    public static void main(String[] args) {
        promise21();
        laws();
        fullRow();
        promise22();
        promise23();
        promise24();
        promise25();
        promise26();
        promise27();
        promise28();
        due.end();
    }

    private static void promise21() {
        WaterPatience x = Due.with(Due.VALLEY);
        due.refused("from home", x.move(7, 0), x, 2);
        due.refused("to the waste", x.move(0, 6), x, 2);
        due.refused("from no row", x.move(3, 7), x, 2);
        due.refused("to no row", x.move(0, 3), x, 2);
        due.refused("from -1", x.move(-1, 7), x, 2);
        due.refused("to 8", x.move(0, 8), x, 2);
        due.refused("onto itself", x.move(0, 0), x, 9);
        due.refused("an empty waste", x.move(6, 0), x, 9);
        due.refused("by no law", x.move(0, 1), x, 9);
        due.refused("not the next", x.move(2, 7), x, 9);
        due.good("onto a row", x.move(1, 2), x, 6);
        due.good("lies on top", x.topOf(2), x, 6);
        due.good("is gone there", x.length(1), x, 1);
        due.good("waters nothing", x.field(1, 2), x, 1);
        due.good("home", x.move(2, 7), x, 6);
        due.good("waters by its rank", x.field(1, 2), x, 2);
        due.good("waters all of its suit", x.field(2, 2), x, 98);
        due.good("waters no other", x.field(0, 2), x, 5);
        x.move(0, 7);
        due.good("home, too", x.move(0, 7), x, 7);
        due.good("above HIGH", x.field(2, 2), x, 100);
        due.good("is rotten", x.field(2, 4), x, 2);
        due.good("from an alone lying card to an empty row", x.move(2, 0), x, 1);
        due.refused("from an empty row", x.move(2, 0), x, 9);
        x.deal();
        due.good("from the waste to an empty row", x.move(6, 2), x, 8);
        due.good("from there home", x.move(2, 7), x, 8);
        due.good("what is rotten gets none", x.field(2, 2), x, 100);
        due.good("the other does", x.field(1, 2), x, 6 + 1);
    }

    private static void laws() {
        // a, c are black, b is red
        String text = "suit a;suit b red;suit c;row a 2;row b 3;row c 3;row a 3;row b 1;";
        boolean[][] want = {{true, false, false}, {true, true, true}, {false, false, true}};
        for (int law = 0; law < 3; law++) {
            WaterPatience x = Due.with(text + "law " + law + ";");
            for (int to = 1; to <= 3; to++) {
                due.good("law " + law + " to " + to, x.canMove(0, to), x, want[law][to - 1] ? 1 : 0);
            }
            due.good("law " + law + ": two less", x.canMove(4, 1), x, 0);
            due.good("law " + law + ": one more", x.canMove(1, 0), x, 0);
            due.good("law " + law + ": the same rank", x.canMove(2, 1), x, 0);
        }
    }

    private static void fullRow() {
        String twelve = "ranks 6;law 1;suit a;suit b;suit c;row a 1 a 3 a 4 a 5 a 6 b 1 b 2 b 3 b 4 b 5 b 6 a 2";
        WaterPatience x = Due.with(twelve + ";row c 1;row;");
        due.good("12 cards", x.length(0), x, 12);
        due.refused("a 13th", x.move(1, 0), x, 9);
        due.good("off and on again", x.move(0, 2), x, 1);
        due.good("now onto that", x.move(1, 2), x, 12);
        WaterPatience y = Due.with(twelve.replace("a 1 a 3", "a 3") + ";row c 1;");
        due.good("a 12th", y.move(1, 0), y, 12);
    }

    private static void promise22() {
        WaterPatience x = Due.with("suit a;redeals 2;row;stock a 3 a 2 a 4;");
        due.good("first", x.deal(), x, 2);
        due.good("second", x.deal(), x, 1);
        due.good("top of the waste", x.topOf(6), x, 1);
        due.good("taken off", x.move(6, 0), x, 1);
        due.good("third", x.deal(), x, 3);
        due.good("redeal", x.deal(), x, -1);
        due.good("redeals left", x.many(3), x, 1);
        due.good("the waste is empty", x.many(8), x, 0);
        due.good("stock", x.many(7), x, 2);
        due.good("what was dealt first is first", x.stockAt(0), x, 2);
        due.good("again", x.deal(), x, 2);
        due.good("again", x.deal(), x, 3);
        due.good("redeal", x.deal(), x, -1);
        x.deal();
        x.deal();
        due.refused("none left", x.deal(), x, 9);
        StringBuilder all = new StringBuilder("ranks 6;redeals 1;suit a;suit b;suit c;suit d;row;stock");
        for (int card = 0; card < 24; card++) {
            all.append(' ').append((char) ('a' + card / 6)).append(' ').append(card % 6 + 1);
        }
        WaterPatience w = Due.with(all + ";");
        for (int card = 0; card < 24; card++) {
            due.good("all cards", w.deal(), w, card);
        }
        due.good("the last lies on top", w.topOf(6), w, 23);
        due.good("all become the stock", w.deal(), w, -1);
        due.good("24", w.many(7), w, 24);
        due.good("a 1", w.deal(), w, 0);
        for (int card = 1; card < 24; card++) {
            w.deal();
        }
        due.good("it can be moved", w.move(6, 0), w, 23);
        WaterPatience y = Due.with("suit a;redeals 2;row;stock a 1;");
        y.deal();
        y.move(6, 7);
        due.refused("an empty waste", y.deal(), y, 9);
        due.good("the redeals stay", y.many(3), y, 2);
    }

    private static void promise23() {
        WaterPatience x = Due.with(Due.VALLEY);
        due.good("run", x.run(), x, 5);
        due.good("again", x.run(), x, 0);
        due.good("home", x.many(9), x, 5);
        due.good("rows", x.many(10), x, 0);
        due.good("stock stays", x.many(7), x, 1);
        due.good("water", x.field(0, 2), x, 11);
        due.good("water", x.field(1, 2), x, 4);
        due.good("rotten", x.many(12), x, 4);
        x.deal();
        due.good("from the waste", x.run(), x, 1);
        due.good("home of clubs", x.homeOf(1), x, 3);
        WaterPatience y = Due.with("suit a;row a 2 a 1 a 3;row a 4;");
        due.good("blocked", y.run(), y, 0);
        y.rule(1);
        y.move(0, 1);
        due.good("free", y.run(), y, 4);
    }

    private static void promise24() {
        WaterPatience x = Due.with(Due.VALLEY);
        due.refused("0 days", x.day(0), x, 5);
        due.refused("100 days", x.day(100), x, 5);
        due.refused("-1 days", x.day(-1), x, 5);
        due.good("one", x.day(1), x, 5);
        due.good("dries", x.field(0, 2), x, 3);
        due.good("is 0", x.field(1, 2), x, 0);
        due.good("withered", x.field(1, 4), x, 1);
        due.good("two", x.day(1), x, 5);
        due.good("three", x.day(1), x, 4);
        due.good("withered now", x.many(11), x, 3);
        due.good("DAY", x.many(6), x, 3);
        WaterPatience y = Due.with("suit a;field f of a dries 5;");
        due.good("to 0 it lives", y.day(2), y, 1);
        due.good("water 0", y.field(0, 2), y, 0);
        due.good("below 0 it does not", y.day(1), y, 0);
        WaterPatience z = Due.with("suit a;field f of a dries 0;");
        for (int i = 0; i < 101; i++) {
            z.day(99);
        }
        due.good("9,999", z.many(6), z, 9999);
        due.refused("10,000", z.day(1), z, 7);
        due.refused("0 is 5", z.day(0), z, 5);
        due.good("9,999 still", z.many(6), z, 9999);
    }

    private static void promise25() {
        WaterPatience x = Due.with(Due.VALLEY);
        due.refused("no field", x.rain(3, 0), x, 2);
        due.refused("field -1", x.rain(-1, 1), x, 2);
        due.refused("0", x.rain(0, 0), x, 5);
        due.refused("100", x.rain(0, 100), x, 5);
        due.good("up to HIGH", x.rain(0, 15), x, 20);
        due.good("is fine", x.field(0, 4), x, 0);
        due.good("above", x.rain(0, 99), x, 119);
        due.good("is rotten", x.field(0, 4), x, 2);
        due.refused("rotten", x.rain(0, 1), x, 9);
        due.refused("rotten, and a wrong number", x.rain(0, 0), x, 5);
        x.day(1);
        due.refused("withered", x.rain(1, 1), x, 9);
    }

    private static void promise26() {
        WaterPatience x = Due.with("suit a;suit b;row a 1;row b 2;");
        due.good("law 0", x.canMove(0, 1), x, 0);
        due.good("rule", x.rule(1), x);
        due.good("law 1", x.canMove(0, 1), x, 1);
        due.good("rule", x.rule(2), x);
        due.good("law 2", x.canMove(0, 1), x, 0);
        due.refused("3", x.rule(3), x, 5);
        due.refused("-1", x.rule(-1), x, 5);
        due.good("LAW", x.many(2), x, 2);
        due.good("rule", x.rule(0), x);
        due.good("LAW", x.many(2), x, 0);
    }

    private static void promise27() {
        WaterPatience x = Due.with("suit a;suit b;row b 1;field f of a dries 3 water 0 high 9;");
        x.day(1);
        due.refused("no field", x.sow(1, 0), x, 2);
        due.refused("no suit", x.sow(0, 2), x, 2);
        due.refused("field -1", x.sow(-1, 0), x, 2);
        due.refused("suit -1", x.sow(0, -1), x, 2);
        due.good("it stays withered", x.field(0, 4), x, 1);
        due.good("sow", x.sow(0, 1), x);
        int[] want = {1, 3, 10, 9, 0};
        for (int what = 0; what < 5; what++) {
            due.good("field(0, " + what + ")", x.field(0, what), x, want[what]);
        }
        due.good("above HIGH till it is watered", x.run(), x, 1);
        due.good("rotten", x.field(0, 4), x, 2);
        due.good("water", x.field(0, 2), x, 11);
        due.good("sown again", x.sow(0, 0), x);
        due.good("fine", x.field(0, 4), x, 0);
        due.good("a day dries it", x.day(1), x, 1);
        due.good("water", x.field(0, 2), x, 7);
    }

    private static void promise28() {
        WaterPatience x = Due.with("ranks 2;suit a;suit b;redeals 3;row a 1;row;stock b 2;field f of a dries 1;");
        x.run();
        x.deal();
        x.deal();
        x.day(2);
        due.refused("seed -1", x.shuffle(-1), x, 5);
        due.refused("seed 10,000", x.shuffle(10000), x, 5);
        due.good("nothing was changed", x.many(9), x, 1);
        int[] deck = {0, 1, 6, 7};
        int s = 5;
        for (int k = 3; k >= 1; k--) {
            s = (int) ((s * 2971L + 10711L) % 65536L);
            int j = s / 8 % (k + 1);
            int card = deck[k];
            deck[k] = deck[j];
            deck[j] = card;
        }
        due.good("all cards of all suits", x.shuffle(5), x, 4);
        due.good("row 0", x.length(0), x, 1);
        due.good("row 0", x.card(0, 0), x, deck[0]);
        due.good("row 1", x.card(1, 0), x, deck[1]);
        due.good("row 1", x.card(1, 1), x, deck[2]);
        due.good("stock", x.stockAt(0), x, deck[3]);
        due.good("stock", x.many(7), x, 1);
        due.good("waste", x.many(8), x, 0);
        due.good("home", x.many(9), x, 0);
        due.good("redeals stay", x.many(3), x, 2);
        due.good("the day stays", x.many(6), x, 2);
        due.good("fields stay", x.field(0, 2), x, 9);
        WaterPatience y = Due.with("suit a;row;row;row;row;row;row;");
        due.good("fewer cards than room", y.shuffle(9999), y, 4);
        due.good("row 0", y.length(0), y, 1);
        due.good("row 1", y.length(1), y, 2);
        due.good("row 2", y.length(2), y, 1);
        due.good("row 3", y.length(3), y, 0);
        WaterPatience dealt = Due.with("suit a;row;stock a 3 a 2;");
        dealt.deal();
        due.good("behind a deal", dealt.shuffle(7), dealt, 4);
        due.good("all but one are in the stock", dealt.many(7), dealt, 3);
        WaterPatience z = Due.with("suit a;");
        due.good("no rows", z.shuffle(0), z, 4);
        due.good("all in the stock", z.many(7), z, 4);
    }
}
