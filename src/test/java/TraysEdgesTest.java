/** Boundary cases of promises 1 to 8: a new object, STATUS, the FRACTION, TRAYS. */
public final class TraysEdgesTest {
    private static final int LEAST = Integer.MIN_VALUE;
    private static final int MOST = Integer.MAX_VALUE;
    private static final Edge edge = new Edge();

    public static void main(String[] args) {
        promise1();
        promise2();
        lastCall();
        promises3and4();
        promise5();
        sorts();
        promise6();
        promise7();
        promise8();
        pourInOrder();
        edge.end("tray", "write", "read", "pour");
    }

    private static void promise1() {
        edge.in(WaterPatience::new);
        edge.says("STATUS 0, the FRACTION 0 by 1.");
        WaterPatience x = new WaterPatience();
        edge.is("status()", x.status(), 0);
        edge.is("top()", x.top(), 0);
        edge.is("bottom()", x.bottom(), 1);
        edge.says("TRAYS are MISSING, a VALLEY of no SUITS (RANKS 4)");
        for (int tray = 0; tray <= 3; tray++) {
            edge.refused(3, "read", tray, 0);
            edge.refused(3, "write", tray, 0, 1);
        }
        edge.asks(4, "many", 0);
        for (int what = 1; what <= 13; what++) {
            edge.asks(0, "many", what);
        }
        edge.refused(2, "homeOf", 0);
        edge.refused(2, "length", 0);
        edge.refused(2, "field", 0, 0);
        edge.refused(8, "topOf", 6);
        edge.says("no SEASONS, MARKS, an empty tape");
        edge.refused(8, "live", 0);
        edge.refused(8, "lived", 0);
        edge.refused(8, "mean", 0, 1);
        edge.refused(8, "back");
        edge.gives(1, "mark");
        edge.refused(5, "valley", 1);
        edge.refused(5, "seasons", 1);
        edge.is("the first feed", new WaterPatience().feed(0, 0, 0, 0, 0), 20);
    }

    private static void promise2() {
        edge.says("The STATUS of the latest call that has one.");
        WaterPatience x = Edge.taped();
        x.many(14);
        edge.is("behind many(14)", x.status(), 5);
        edge.is("and once more", x.status(), 5);
        x.many(13);
        edge.is("behind many(13)", x.status(), 0);
        edge.says("status(), fault(), feed(), top(), bottom() have none.");
        x.tray(4, 0, 0);
        x.fault(0);
        edge.is("behind fault(0)", x.status(), 1);
        x.fault(2);
        edge.is("behind fault(2)", x.status(), 1);
        x.feed(0, 0, 0, 0, 0);
        edge.is("behind feed", x.status(), 1);
        x.top();
        x.bottom();
        edge.is("behind top, bottom", x.status(), 1);
        for (int i = 0; i < 50; i++) {
            x.feed(0, 0, 0, 0, 0);
        }
        edge.is("feed that gives NONE", x.feed(0, 0, 0, 0, 0), -1);
        edge.is("behind that", x.status(), 1);
    }

    private static void lastCall() {
        edge.says("An object is used for at most 512 calls after it has been made; what later calls answer is free.");
        WaterPatience x = new WaterPatience();
        for (int calls = 0; calls < 508; calls += 2) {
            x.mark();
            x.back();
        }
        edge.is("call 509", x.mark(), 1);
        edge.is("call 510", x.tray(0, 3, 60) ? 1 : 0, 1);
        edge.is("call 511", x.back(), 0);
        edge.is("call 512", x.read(0, 59), 0);
    }

    private static void promises3and4() {
        edge.says("The top of the FRACTION told latest.");
        // two fields of 10, each watered by 1
        WaterPatience x = Due.with("suit a;row a 1;field f of a dries 0;field g of a dries 0;", "run;");
        edge.on(x, 1, "mean", 0, 3);
        edge.is("top()", x.top(), 22);
        edge.is("bottom()", x.bottom(), 1);
        edge.on(x, 1, "meanWets", 0, 0, 1);
        edge.is("bottom() of one seed", x.bottom(), 1);
        edge.says("Its bottom, above 0.");
        edge.refusedOn(x, 5, "mean", 0, 0);
        edge.is("bottom() behind a refused call", x.bottom(), 1);
        edge.says("FRACTIONS are told by top() and bottom() without a common divisor, the bottom above 0; 0 is 0 by 1.");
        WaterPatience none = Due.with("suit a;");
        edge.on(none, 1, "meanWets", 0, 0, 50);
        edge.is("0", none.top(), 0);
        edge.is("by 1", none.bottom(), 1);
        fractionOfSeeds();
    }

    /** By 2 CARDS of one SUIT in one ROW it is RANK 1 or nothing that comes HOME, so the mean is a count by many. */
    private static void fractionOfSeeds() {
        for (int many = 1; many <= 50; many++) {
            WaterPatience x = Due.with("ranks 2;suit a;row;");
            int count = 0;
            for (int seed = 100; seed < 100 + many; seed++) {
                count += x.wets(0, seed);
            }
            edge.on(x, 1, "meanWets", 0, 100, many);
            edge.is("top by bottom of " + count + " by " + many, x.top() * many, count * x.bottom());
            edge.is("a common divisor of " + x.top() + " and " + x.bottom(), divisors(x.top(), x.bottom()), 1);
        }
    }

    private static int divisors(long top, long bottom) {
        int many = 0;
        for (long d = 1; d <= bottom; d++) {
            many += top % d == 0 && bottom % d == 0 ? 1 : 0;
        }
        return many;
    }

    private static void promise5() {
        edge.in(Edge::taped);
        edge.says("A TRAY is a row of so many numbers (at most 60; 5), all 0 (1; 5; 6).");
        for (int sort = 0; sort <= 3; sort++) {
            WaterPatience x = edge.gives(1, "tray", 3, sort, 60);
            for (int place = 0; place < 60; place++) {
                edge.on(x, 0, "read", 3, place);
            }
            edge.refusedOn(x, 4, "read", 3, 60);
        }
        edge.refused(5, "tray", 0, 0, 61);
        edge.refused(5, "tray", 3, 3, 61);
        edge.refused(5, "tray", 0, 0, MOST);
        WaterPatience none = edge.gives(1, "tray", 0, 2, 0);
        edge.refusedOn(none, 4, "read", 0, 0);
        WaterPatience one = edge.gives(1, "tray", 0, 2, 1);
        edge.on(one, 0, "read", 0, 0);
        edge.refusedOn(one, 4, "read", 0, 1);
        edge.says("6 below 0 (a TRAY's length).");
        edge.refused(6, "tray", 0, 0, -1);
        edge.refused(6, "tray", 3, 0, -1);
        edge.refused(6, "tray", 0, 0, LEAST);
        edge.says("TRAYS, 0 to 3, are MISSING at first");
        edge.gives(1, "tray", 0, 0, 3);
        edge.gives(1, "tray", 3, 0, 3);
        edge.refused(1, "tray", -1, 0, 3);
        edge.refused(1, "tray", 4, 0, 3);
        edge.refused(1, "tray", LEAST, 0, 3);
        edge.refused(1, "tray", MOST, 0, 3);
        edge.says("1 no such TRAY (or sort).");
        edge.refused(1, "tray", 0, -1, 3);
        edge.refused(1, "tray", 0, 4, 3);
        edge.refused(1, "tray", 0, LEAST, 3);
        edge.refused(1, "tray", 0, MOST, 3);
        edge.says("STATUS of a call is the first of these that holds");
        edge.refused(1, "tray", 4, 0, 61);
        edge.refused(1, "tray", 0, 4, 61);
        edge.refused(1, "tray", 4, 0, -1);
        edge.refused(1, "tray", 0, 4, -1);
        edge.says("A TRAY is a row of so many numbers (at most 60; 5), all 0");
        WaterPatience again = edge.gives(1, "tray", 0, 0, 3);
        for (int place = 0; place < 3; place++) {
            edge.on(again, 0, "read", 0, place);
        }
    }

    /** The last number of each sort that is kept as it is, and the first that is cut. */
    private static void sorts() {
        edge.says("or rows of numbers of 8 bits (sort 0), 16 (1), 32 (2) or 64 (3), with sign; what is written is cut to these.");
        int[] bits = {8, 16, 32, 64};
        for (int sort = 0; sort <= 3; sort++) {
            long high = Long.MAX_VALUE >> 64 - bits[sort];
            long low = -high - 1;
            cut(sort, high, high);
            cut(sort, low, low);
            cut(sort, high + 1, low);
            cut(sort, low - 1, high);
            cut(sort, -1, -1);
            cut(sort, 0, 0);
            cut(sort, Long.MAX_VALUE, sort == 3 ? Long.MAX_VALUE : -1);
            cut(sort, Long.MIN_VALUE, sort == 3 ? Long.MIN_VALUE : 0);
        }
        cut(0, 255, -1);
        cut(0, 256, 0);
        cut(1, 65535, -1);
        cut(1, 65536, 0);
        cut(2, 0xffff_ffffL, -1);
        cut(2, 0x1_0000_0000L, 0);
        cut(3, 0x1_0000_0000L, 0x1_0000_0000L);
    }

    private static void cut(int sort, long v, long kept) {
        WaterPatience x = new WaterPatience();
        x.tray(2, sort, 3);
        edge.on(x, 1, "write", 2, 1, v);
        edge.on(x, kept, "read", 2, 1);
        edge.on(x, 0, "read", 2, 0);
        edge.on(x, 0, "read", 2, 2);
    }

    private static void promise6() {
        edge.in(Edge::taped);
        edge.says("A number comes to a place of a TRAY (1; 3; 4).");
        WaterPatience first = edge.gives(1, "write", 0, 0, 99);
        edge.on(first, 99, "read", 0, 0);
        edge.on(first, -6, "read", 0, 1);
        WaterPatience last = edge.gives(1, "write", 0, 2, 99);
        edge.on(last, 99, "read", 0, 2);
        edge.on(last, -6, "read", 0, 1);
        edge.refused(4, "write", 0, -1, 99);
        edge.refused(4, "write", 0, 3, 99);
        edge.refused(4, "write", 0, LEAST, 99);
        edge.refused(4, "write", 0, MOST, 99);
        edge.refused(4, "write", 2, 0, 99);
        edge.refused(3, "write", 3, 0, 99);
        edge.refused(3, "write", 3, -1, 99);
        edge.refused(1, "write", -1, 0, 99);
        edge.refused(1, "write", 4, 0, 99);
        edge.refused(1, "write", 4, -1, 99);
        edge.refused(1, "write", LEAST, 0, 99);
        edge.refused(1, "write", MOST, 0, 99);
    }

    private static void promise7() {
        edge.says("The number in a place of a TRAY; STATUS tells NONE from -1 (1; 3; 4).");
        WaterPatience x = edge.gives(1, "write", 0, 2, -1);
        edge.on(x, -1, "read", 0, 2);
        edge.asks(5, "read", 0, 0);
        edge.asks(7, "read", 0, 2);
        edge.asks(Long.MIN_VALUE, "read", 1, 0);
        edge.refused(4, "read", 0, -1);
        edge.refused(4, "read", 0, 3);
        edge.refused(4, "read", 0, LEAST);
        edge.refused(4, "read", 0, MOST);
        edge.refused(4, "read", 1, 2);
        edge.refused(4, "read", 2, 0);
        edge.refused(3, "read", 3, 0);
        edge.refused(3, "read", 3, -1);
        edge.refused(1, "read", -1, 0);
        edge.refused(1, "read", 4, 0);
        edge.refused(1, "read", 4, -1);
        edge.refused(1, "read", LEAST, LEAST);
    }

    /** Trays 0 and 1 of one sort with 5 and 3 numbers, 2 of another sort, 3 is MISSING. */
    private static WaterPatience poured() {
        WaterPatience x = new WaterPatience();
        x.tray(0, 1, 5);
        x.tray(1, 1, 3);
        x.tray(2, 2, 5);
        for (int place = 0; place < 5; place++) {
            x.write(0, place, 10 + place);
            x.write(1, place, 20 + place);
            x.write(2, place, 30 + place);
        }
        return x;
    }

    private static void row(WaterPatience x, int tray, long... want) {
        for (int place = 0; place < want.length; place++) {
            edge.on(x, want[place], "read", tray, place);
        }
        edge.refusedOn(x, 4, "read", tray, want.length);
    }

    private static void promise8() {
        edge.in(TraysEdgesTest::poured);
        edge.says("So many numbers from place i on of a TRAY come to place j on of another one, or the same, as they were");
        WaterPatience whole = edge.gives(1, "pour", 0, 2, 1, 0, 3);
        row(whole, 1, 12, 13, 14);
        row(whole, 0, 10, 11, 12, 13, 14);
        row(edge.gives(1, "pour", 1, 0, 0, 2, 3), 0, 10, 11, 20, 21, 22);
        row(edge.gives(1, "pour", 0, 4, 1, 2, 1), 1, 20, 21, 14);
        row(edge.gives(1, "pour", 0, 0, 0, 1, 4), 0, 10, 10, 11, 12, 13);
        row(edge.gives(1, "pour", 0, 1, 0, 0, 4), 0, 11, 12, 13, 14, 14);
        row(edge.gives(1, "pour", 0, 0, 0, 2, 3), 0, 10, 11, 10, 11, 12);
        edge.asks(1, "pour", 0, 0, 0, 0, 5);
        edge.asks(1, "pour", 0, 2, 0, 2, 3);
        edge.asks(1, "pour", 0, 0, 1, 0, 0);
        edge.asks(1, "pour", 0, 5, 1, 3, 0);
        edge.asks(1, "pour", 0, 4, 1, 2, 0);
        edge.says("4 a place that the TRAY has not, or too few numbers.");
        edge.refused(4, "pour", 0, 3, 1, 0, 3);
        edge.refused(4, "pour", 0, 2, 1, 1, 3);
        edge.refused(4, "pour", 0, 0, 1, 0, 4);
        edge.refused(4, "pour", 0, 0, 0, 0, 6);
        edge.refused(4, "pour", 0, 0, 0, 1, 5);
        edge.refused(4, "pour", 0, 1, 0, 0, 5);
        edge.refused(4, "pour", 0, -1, 1, 0, 1);
        edge.refused(4, "pour", 0, 0, 1, -1, 1);
        edge.refused(4, "pour", 0, 5, 1, 0, 1);
        edge.refused(4, "pour", 0, 0, 1, 3, 1);
        edge.refused(4, "pour", 0, -1, 1, 0, 0);
        edge.refused(4, "pour", 0, 0, 1, -1, 0);
        edge.refused(4, "pour", 0, 6, 1, 0, 0);
        edge.refused(4, "pour", 0, 0, 1, 4, 0);
        edge.refused(4, "pour", 0, 1, 1, 1, MOST);
        edge.refused(4, "pour", 0, MOST, 1, 1, 1);
        edge.refused(4, "pour", 0, 1, 1, MOST, 1);
        edge.refused(4, "pour", 0, MOST, 1, MOST, MOST);
        edge.refused(4, "pour", 0, LEAST, 1, 0, 1);
        edge.refused(4, "pour", 0, 0, 1, LEAST, 1);
    }

    private static void pourInOrder() {
        edge.says("1, 3 (either), 11, 6, 4, asked in this order.");
        edge.refused(1, "pour", -1, 0, 0, 0, 1);
        edge.refused(1, "pour", 4, 0, 0, 0, 1);
        edge.refused(1, "pour", 0, 0, -1, 0, 1);
        edge.refused(1, "pour", 0, 0, 4, 0, 1);
        edge.refused(1, "pour", LEAST, 0, MOST, 0, 1);
        edge.refused(1, "pour", 3, 0, 4, 0, 1);
        edge.refused(1, "pour", 4, 0, 3, 0, 1);
        edge.refused(1, "pour", 4, -1, 2, -1, -1);
        edge.refused(3, "pour", 3, 0, 0, 0, 1);
        edge.refused(3, "pour", 0, 0, 3, 0, 1);
        edge.refused(3, "pour", 3, 0, 3, 0, 0);
        edge.refused(3, "pour", 3, -1, 2, -1, -1);
        edge.refused(3, "pour", 2, -1, 3, -1, -1);
        edge.refused(11, "pour", 0, 0, 2, 0, 1);
        edge.refused(11, "pour", 2, 0, 1, 0, 0);
        edge.refused(11, "pour", 0, 9, 2, 9, 1);
        edge.refused(11, "pour", 0, 0, 2, 0, -1);
        edge.refused(6, "pour", 0, 0, 1, 0, -1);
        edge.refused(6, "pour", 0, 0, 1, 0, LEAST);
        edge.refused(6, "pour", 0, -1, 1, 0, -1);
        edge.refused(6, "pour", 0, 0, 1, 9, -1);
    }
}
