/** Promises 1 to 8: a new object, status, fraction, trays. */
public final class TraysTest {
    private static final Due due = new Due();

    public static void main(String[] args) {
        promise1();
        promises2to4();
        promise5();
        promises6and7();
        promise8();
        due.end();
    }

    private static void promise1() {
        WaterPatience x = new WaterPatience();
        due.is("status", x.status(), 0);
        due.is("top", x.top(), 0);
        due.is("bottom", x.bottom(), 1);
        for (int tray = 0; tray < 4; tray++) {
            due.refused("read of a tray that is missing", x.read(tray, 0), x, 3);
        }
        due.good("many(0)", x.many(0), x, 4);
        for (int what = 1; what <= 13; what++) {
            due.good("many(" + what + ")", x.many(what), x, 0);
        }
        due.refused("live without seasons", x.live(0), x, 8);
        due.refused("back without marks", x.back(), x, 8);
        due.is("first feed", x.feed(0, 0, 0, 0, 0), 20);
    }

    private static void promises2to4() {
        WaterPatience x = Due.with(Due.VALLEY, "day 1;");
        due.refused("many(14)", x.many(14), x, 5);
        x.fault(0);
        x.feed(1, 2, 3, 4, 5);
        x.top();
        x.bottom();
        due.is("status behind calls that have none", x.status(), 5);
        due.good("mean", x.mean(0, 3), x);
        due.is("top", x.top(), 3 + 0 + 97);
        due.is("bottom", x.bottom(), 1);
        due.refused("mean by no seeds", x.mean(0, 0), x, 5);
        due.is("top stays", x.top(), 100);
        due.is("bottom stays", x.bottom(), 1);
    }

    private static void promise5() {
        WaterPatience x = new WaterPatience();
        due.refused("tray -1", x.tray(-1, 0, 1), x, 1);
        due.refused("tray 4", x.tray(4, 0, 1), x, 1);
        due.refused("sort -1", x.tray(0, -1, 1), x, 1);
        due.refused("sort 4", x.tray(0, 4, 61), x, 1);
        due.refused("61 numbers", x.tray(0, 0, 61), x, 5);
        due.refused("-1 numbers", x.tray(0, 0, -1), x, 6);
        due.refused("least many", x.tray(0, 0, Integer.MIN_VALUE), x, 6);
        due.refused("it is still missing", x.read(0, 0), x, 3);
        due.good("60 numbers", x.tray(0, 3, 60), x);
        due.good("the last", x.read(0, 59), x, 0);
        x.write(0, 59, 7);
        due.good("laid anew", x.tray(0, 2, 60), x);
        due.good("is 0", x.read(0, 59), x, 0);
        due.good("no numbers", x.tray(1, 0, 0), x);
        due.refused("has no place 0", x.read(1, 0), x, 4);
        x.write(0, 3, 9);
        due.refused("refused", x.tray(0, 0, 61), x, 5);
        due.good("changes nothing", x.read(0, 3), x, 9);
    }

    private static void promises6and7() {
        WaterPatience x = new WaterPatience();
        long v = 0x1234_5678_9abc_def0L;
        long[] cut = {(byte) v, (short) v, (int) v, v};
        for (int sort = 0; sort < 4; sort++) {
            x.tray(sort, sort, 2);
            due.good("write", x.write(sort, 1, v), x);
            due.good("sort " + sort, x.read(sort, 1), x, cut[sort]);
            due.good("beside", x.read(sort, 0), x, 0);
            x.write(sort, 0, 255);
            due.good("255 in sort " + sort, x.read(sort, 0), x, sort == 0 ? -1 : 255);
        }
        WaterPatience y = new WaterPatience();
        y.tray(1, 0, 3);
        due.refused("write to tray 4", y.write(4, 0, 1), y, 1);
        due.refused("write to tray -1", y.write(-1, 9, 1), y, 1);
        due.refused("write to a missing one", y.write(0, 9, 1), y, 3);
        due.refused("write to place 3", y.write(1, 3, 1), y, 4);
        due.refused("write to place -1", y.write(1, -1, 1), y, 4);
        due.refused("read of tray 4", y.read(4, 0), y, 1);
        due.refused("read of a missing one", y.read(3, -1), y, 3);
        due.refused("read of place 3", y.read(1, 3), y, 4);
        due.refused("read of the least place", y.read(1, Integer.MIN_VALUE), y, 4);
    }

    private static void promise8() {
        WaterPatience x = new WaterPatience();
        x.tray(0, 1, 5);
        x.tray(1, 1, 3);
        x.tray(2, 2, 3);
        for (int i = 0; i < 5; i++) {
            x.write(0, i, 10 + i);
        }
        due.good("to itself, upwards", x.pour(0, 0, 0, 1, 4), x);
        row(x, 0, 10, 10, 11, 12, 13);
        due.good("to itself, downwards", x.pour(0, 2, 0, 0, 3), x);
        row(x, 0, 11, 12, 13, 12, 13);
        due.good("to another", x.pour(0, 1, 1, 1, 2), x);
        row(x, 1, 0, 12, 13);
        due.good("none", x.pour(0, 5, 1, 3, 0), x);
        due.refused("no such tray", x.pour(4, 0, 3, 0, -1), x, 1);
        due.refused("no such target", x.pour(3, 0, -1, 0, -1), x, 1);
        due.refused("missing", x.pour(3, 0, 2, 0, -1), x, 3);
        due.refused("missing target", x.pour(2, 0, 3, 0, -1), x, 3);
        due.refused("unlike sorts", x.pour(0, 9, 2, 9, -1), x, 11);
        due.refused("below 0", x.pour(0, 9, 1, 9, -1), x, 6);
        due.refused("source too short", x.pour(0, 4, 1, 0, 2), x, 4);
        due.refused("target too short", x.pour(0, 0, 1, 0, 4), x, 4);
        due.refused("from -1", x.pour(0, -1, 1, 0, 1), x, 4);
        due.refused("to -1", x.pour(0, 0, 1, -1, 1), x, 4);
        due.refused("very many", x.pour(0, 1, 1, 1, Integer.MAX_VALUE), x, 4);
        due.refused("very far", x.pour(0, Integer.MAX_VALUE, 1, 1, 1), x, 4);
        row(x, 0, 11, 12, 13, 12, 13);
        row(x, 1, 0, 12, 13);
    }

    private static void row(WaterPatience x, int tray, long... want) {
        for (int i = 0; i < want.length; i++) {
            due.is("tray " + tray + " place " + i, x.read(tray, i), want[i]);
        }
    }
}
