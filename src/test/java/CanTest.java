/** Promises 29 to 39: what can be. */
public final class CanTest {
    private static final Due due = new Due();

    public static void main(String[] args) {
        promise29();
        promises30and31();
        promises32and33();
        promises34to36();
        promise37();
        promises38and39();
        due.end();
    }

    private static void promise29() {
        WaterPatience x = Due.with(Due.VALLEY);
        due.good("home", x.canMove(0, 7), x, 1);
        due.good("onto a row", x.canMove(1, 2), x, 1);
        due.good("not", x.canMove(2, 1), x, 0);
        due.good("onto itself", x.canMove(1, 1), x, 0);
        due.good("an empty waste", x.canMove(6, 7), x, 0);
        due.refused("from home", x.canMove(7, 7), x, 2);
        due.refused("to the waste", x.canMove(6, 6), x, 2);
        due.refused("no such row", x.canMove(3, 0), x, 2);
        due.refused("no such row", x.canMove(0, 5), x, 2);
        due.refused("to -1", x.canMove(0, -1), x, 2);
        due.good("nothing was done", x.many(10), x, 5);
    }

    private static void promises30and31() {
        WaterPatience x = Due.with("suit a;suit b red;row a 1;row b 2;row;stock a 3;");
        x.deal();
        int[] want = {1, 2, 7, 12, 62};
        due.good("moves", x.moves(), x, want.length);
        due.good("nothing else was asked ahead", movesToRow0(), x, 10);
        for (int k = 0; k < want.length; k++) {
            due.good("moveAt(" + k + ")", x.moveAt(k), x, want[k]);
        }
        due.refused("one beyond", x.moveAt(want.length), x, 8);
        due.refused("-1", x.moveAt(-1), x, 8);
        due.refused("far beyond", x.moveAt(Integer.MAX_VALUE), x, 8);
        WaterPatience y = Due.with("suit a;row a 2;");
        due.good("none", y.moves(), y, 0);
        due.refused("not even the first", y.moveAt(0), y, 8);
    }

    private static int movesToRow0() {
        return Due.with("suit a;row;row a 1;").moveAt(0);
    }

    private static void promises32and33() {
        WaterPatience fresh = Due.with(Due.VALLEY);
        due.good("clubs at once", fresh.runWater(1), fresh, 3);
        WaterPatience x = Due.with(Due.VALLEY);
        due.good("runs", x.runs(), x, 5);
        due.good("hearts", x.runWater(0), x, 6);
        due.good("clubs", x.runWater(1), x, 3);
        due.refused("suit 2", x.runWater(2), x, 2);
        due.refused("suit -1", x.runWater(-1), x, 2);
        due.good("nothing was done", x.many(9), x, 0);
        x.move(0, 7);
        due.good("runs left", x.runs(), x, 4);
        due.good("hearts left", x.runWater(0), x, 5);
        x.run();
        due.good("none left", x.runs(), x, 0);
        x.deal();
        due.good("the waste, too", x.runs(), x, 1);
        due.good("rank 3", x.runWater(1), x, 3);
    }

    private static void promises34to36() {
        WaterPatience x = Due.with("ranks 2;suit a;suit b;suit c;suit d;row a 1 b 2 a 2;row c 1;stock b 1 d 2 d 1;");
        int[] card = {0, 6, 12, 18};
        int[] at = {0, 8, 1, 8};
        int[] over = {2, 0, 0, 2};
        for (int suit = 0; suit < 4; suit++) {
            due.good("next(" + suit + ")", x.next(suit), x, card[suit]);
            due.good("nextAt(" + suit + ")", x.nextAt(suit), x, at[suit]);
            due.good("over(" + suit + ")", x.over(suit), x, over[suit]);
        }
        x.deal();
        x.deal();
        due.good("in the waste", x.nextAt(1), x, 6);
        due.good("one lies on it", x.over(1), x, 1);
        due.good("one more deal", x.over(3), x, 0);
        x.move(1, 7);
        due.refused("that card is not there", x.next(2), x, 8);
        due.refused("nor its place", x.nextAt(2), x, 8);
        due.refused("nor what is over it", x.over(2), x, 8);
        x.deal();
        x.run();
        due.refused("all ranks are home", x.next(3), x, 8);
        due.refused("no suit", x.next(4), x, 2);
        due.refused("no suit", x.nextAt(-1), x, 2);
        due.refused("no suit", x.over(4), x, 2);
    }

    private static void promise37() {
        WaterPatience x = Due.with("suit a;suit b;suit c;row a 1 a 2 a 3;row b 1 b 2;row c 1 c 2;");
        due.good("of several the first", x.easiest(), x, 1);
        WaterPatience y = Due.with("suit a;suit b;suit c;row a 2;stock b 2 b 3 b 1 c 1;");
        due.good("only those that have one", y.easiest(), y, 1);
        WaterPatience first = Due.with("suit a;suit b;row a 1;row b 1 b 2;");
        due.good("the first suit", first.easiest(), first, 0);
        WaterPatience z = Due.with("suit a;row a 2;");
        due.refused("none has", z.easiest(), z, 8);
        WaterPatience w = Due.with("ranks 1;suit a;row a 1;");
        w.run();
        due.refused("all is home", w.easiest(), w, 8);
    }

    private static void promises38and39() {
        WaterPatience x = Due.with("suit a;row a 1;field f of a dries 0;field g of a dries 3;field h of a dries 4;"
                + "field i of a dries 5 water 19;field k of a dries 7 water 3 high 3;");
        due.refused("never", x.wilts(0), x, 8);
        due.good("10 by 3", x.wilts(1), x, 4);
        due.good("10 by 4", x.wilts(2), x, 3);
        due.good("19 by 5", x.wilts(3), x, 4);
        due.good("3 by 7", x.wilts(4), x, 1);
        due.refused("no field", x.wilts(5), x, 2);
        due.refused("field -1", x.wilts(-1), x, 2);
        due.good("thirstiest", x.thirstiest(), x, 4);
        x.run();
        due.refused("rotten", x.wilts(4), x, 8);
        due.good("11 by 3", x.wilts(1), x, 4);
        due.good("thirstiest now", x.thirstiest(), x, 2);
        x.sow(3, 0);
        due.good("of several the first", x.thirstiest(), x, 2);
        x.day(3);
        due.refused("withered", x.wilts(2), x, 8);
        due.good("one day more", x.wilts(1), x, 1);
        x.day(9);
        due.refused("none does", x.thirstiest(), x, 8);
        WaterPatience y = Due.with("suit a;field f of a dries 5;");
        due.good("10 by 5", y.wilts(0), y, 3);
        due.good("the only one", y.thirstiest(), y, 0);
        due.good("lives for two", y.day(2), y, 1);
        due.good("not for three", y.day(1), y, 0);
    }
}
