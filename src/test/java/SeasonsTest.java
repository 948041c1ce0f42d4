/** Promises 51 to 55: seasons and marks. */
public final class SeasonsTest {
    private static final Due due = new Due();

    public static void main(String[] args) {
        promise51();
        tests();
        loops();
        missed();
        promise52();
        any();
        promise53();
        promises54and55();
        due.end();
    }

    private static void promise51() {
        WaterPatience x = Due.with(Due.VALLEY);
        due.refused("no seasons", x.live(0), x, 8);
        due.refused("no seasons, nor seed", x.live(-1), x, 5);
        due.good("seasons", Due.seasons(x, "move 0 7; day 1; deal; run; stop; day 1;"), x, 6);
        due.refused("seed -1", x.live(-1), x, 5);
        due.refused("seed 10,000", x.live(10000), x, 5);
        due.good("nothing was done", x.many(6), x, 0);
        due.good("stop is done, what is behind it is not", x.live(9999), x, 5);
        due.good("all is as it is then: DAY", x.many(6), x, 1);
        due.good("HOME", x.many(9), x, 6);
        due.good("WATER", x.field(0, 2), x, 5 + 1 - 2 + 5);
        due.good("withered", x.many(11), x, 2);
        due.good("rotten", x.many(12), x, 4);
    }

    private static void tests() {
        String[] tests = {"home clubs = 0", "home clubs < 1", "home clubs > 0", "water oat = 5", "water oat < 5",
            "water oat > 4", "water bean > 96", "stuck", "home hearts = 0", "home hearts > 0"};
        boolean[] want = {true, true, false, true, false, true, true, false, true, false};
        for (int i = 0; i < tests.length; i++) {
            WaterPatience x = Due.with(Due.VALLEY, "when " + tests[i] + "; day 1; end; deal;");
            due.good("steps by " + tests[i], x.live(0), x, want[i] ? 3 : 2);
            due.good("days by " + tests[i], x.many(6), x, want[i] ? 1 : 0);
            due.good("what is behind " + tests[i], x.many(8), x, 1);
        }
        WaterPatience y = Due.with("suit a;row a 2;", "when stuck; day 3; end;");
        due.good("stuck", y.live(0), y, 2);
        due.good("days", y.many(6), y, 3);
    }

    private static void loops() {
        String valley = "suit a;field f of a dries 0;";
        WaterPatience x = Due.with(valley, "loop 3; day 1; loop 2; day 10; end; end; day 20;");
        due.good("loop counts once", x.live(0), x, 1 + 3 * (1 + 1 + 2) + 1);
        due.good("days", x.many(6), x, 3 + 60 + 20);
        due.good("nothing left", x.lived(4), x, 0);
        WaterPatience y = Due.with(valley, "loop 99; day 1; day 1; day 1; day 1; end;");
        due.good("300 at most", y.live(0), y, 300);
        due.good("299 of them days", y.many(6), y, 299);
        due.good("left", y.lived(4), y, 1);
        WaterPatience z = Due.with(valley, "loop 23; day 1; day 1; day 1; day 1; day 1; day 1; day 1; day 1; day 1;"
                + "day 1; day 1; day 1; day 1; end;");
        due.good("just 300", z.live(0), z, 300);
        due.good("none left", z.lived(4), z, 0);
        WaterPatience w = Due.with(valley, "loop 99; loop 99; loop 99; end; end; end;");
        due.good("empty loops", w.live(0), w, 300);
        due.good("left", w.lived(4), w, 1);
        WaterPatience v = Due.with(valley, "loop 2; loop 99; end; end; stop; day 1;");
        due.good("empty loops end", v.live(0), v, 4);
        due.good("behind a stop nothing is left to be done", v.lived(4), v, 0);
        WaterPatience t = Due.with(valley, Due.times("loop1;end;", 30));
        due.good("30 loops in 300 bytes", t.live(0), t, 30);
        due.good("nothing left", t.lived(4), t, 0);
        WaterPatience u = Due.with(valley, "loop 5; when water f = 10; day 1; when stuck; stop; end; end; end;");
        due.good("stop within", u.live(0), u, 5);
        due.good("days", u.many(6), u, 1);
    }

    private static void missed() {
        String[] steps = {"move 3 7", "move 0 3", "move 0 6", "move 0 0", "move 6 7", "move 2 7"};
        for (String step : steps) {
            WaterPatience x = Due.with(Due.VALLEY, step + ";");
            due.good(step, x.live(0), x, 1);
            due.good(step + " is missed", x.lived(0), x, 1);
            due.good(step + " is no move", x.lived(3), x, 0);
        }
        WaterPatience y = Due.with("suit a;row a 2;", "deal; run; any; day 1;");
        due.good("steps", y.live(0), y, 4);
        due.good("missed", y.lived(0), y, 3);
        WaterPatience z = Due.with("suit a;field f of a dries 0;", "day 20; day 4;");
        for (int i = 0; i < 100; i++) {
            z.day(99);
        }
        z.day(90);
        due.good("9,990", z.many(6), z, 9990);
        due.good("steps", z.live(0), z, 2);
        due.good("as a whole", z.many(6), z, 9994);
        due.good("one missed", z.lived(0), z, 1);
        due.good("DAYS", z.lived(1), z, 4);
        WaterPatience w = Due.with("suit a;redeals 1;stock a 2;", "deal; deal; deal; deal;");
        due.good("steps", w.live(0), w, 4);
        due.good("a redeal is a deal", w.lived(0), w, 1);
    }

    private static void promise52() {
        WaterPatience x = Due.with(Due.VALLEY);
        due.refused("there was none", x.lived(0), x, 8);
        due.refused("lived(5)", x.lived(5), x, 5);
        due.refused("lived(-1)", x.lived(-1), x, 5);
        due.refused("still none", x.live(0), x, 8);
        due.refused("that was none", x.lived(4), x, 8);
        Due.seasons(x, "move 0 7; move 1 2; move 0 1; day 3; run; deal; run; day 1; run;");
        due.good("steps", x.live(0), x, 9);
        int[] want = {1, 4, 6, 3, 0};
        for (int what = 0; what < want.length; what++) {
            due.good("lived(" + what + ")", x.lived(what), x, want[what]);
        }
        due.good("steps again", x.live(0), x, 9);
        int[] again = {7, 4, 0, 0, 0};
        for (int what = 0; what < want.length; what++) {
            due.good("then lived(" + what + ")", x.lived(what), x, again[what]);
        }
        want = again;
        cutBefore();
        x.live(-1);
        x.mean(0, 1);
        Due.valley(x, "suit a;");
        x.live(0);
        for (int what = 0; what < want.length; what++) {
            due.good("still lived(" + what + ")", x.lived(what), x, want[what]);
        }
        due.refused("lived(5)", x.lived(5), x, 5);
    }

    private static void cutBefore() {
        WaterPatience x = Due.with("suit a;row a 1;", "loop 99; deal; deal; deal; deal; end;");
        x.live(0);
        due.good("cut", x.lived(4), x, 1);
        Due.seasons(x, "any;");
        due.good("one move is drawn, too", x.live(0), x, 1);
        due.good("none missed", x.lived(0), x, 0);
        due.good("home", x.lived(2), x, 1);
        due.good("not cut", x.lived(4), x, 0);
    }

    /** Each any draws one of the moves that can be. */
    private static void any() {
        String valley = "ranks 4;suit a;suit b red;suit c;law 1;row a 1 b 1;row c 3 a 2;row b 3 c 1;row;row b 2 c 2;";
        for (int seed = 0; seed < 40; seed++) {
            WaterPatience x = Due.with(valley, "loop 9; any; end;");
            WaterPatience y = Due.with(valley);
            int s = seed;
            int home = 0;
            for (int i = 0; i < 9 && y.moves() > 0; i++) {
                s = (s * 2971 + 10711) % 65536;
                int code = y.moveAt(s / 8 % y.moves());
                home += code % 10 == 7 ? 1 : 0;
                y.move(code / 10, code % 10);
            }
            due.good("steps", x.live(seed), x, 10);
            for (int place = 0; place < 5; place++) {
                due.is("length by seed " + seed, x.length(place), y.length(place));
                due.is("top by seed " + seed, x.topOf(place), y.topOf(place));
            }
            due.good("moves by seed " + seed, x.lived(3), x, 9 - x.lived(0));
            due.good("came home by seed " + seed, x.lived(2), x, home);
        }
        WaterPatience x = Due.with("suit a;suit b;row a 1;row b 3;row;", "move 0 7; any; run; any; any;");
        WaterPatience y = Due.with("suit a;suit b;row a 1;row b 3;row;", "move 0 7; any; any; any;");
        x.live(3);
        y.live(3);
        due.is("no draw without an any", x.length(0), y.length(0));
    }

    private static void promise53() {
        WaterPatience x = Due.with(Due.VALLEY);
        due.refused("no seasons", x.mean(0, 1), x, 8);
        due.refused("no seasons, nor seeds", x.mean(0, 0), x, 5);
        Due.seasons(x, "any; any; any; day 1; any;");
        long sum = 0;
        for (int seed = 100; seed < 120; seed++) {
            WaterPatience y = Due.with(Due.VALLEY, "any; any; any; day 1; any;");
            y.live(seed);
            for (int field = 0; field < 3; field++) {
                sum += y.field(field, 2);
            }
        }
        due.good("20 seeds", x.mean(100, 20), x);
        due.is("top by bottom", x.top() * 20, sum * x.bottom());
        due.yes("the bottom divides 20", 20 % x.bottom() == 0);
        due.good("all stays as it is", x.many(9), x, 0);
        due.good("the DAY, too", x.many(6), x, 0);
        due.refused("and what lived tells", x.lived(0), x, 8);
        due.refused("21 seeds", x.mean(0, 21), x, 5);
        due.refused("0 seeds", x.mean(0, 0), x, 5);
        due.refused("seed -1", x.mean(-1, 2), x, 5);
        due.refused("the last above 9,999", x.mean(9981, 20), x, 5);
        due.good("the last", x.mean(9980, 20), x);
        WaterPatience z = Due.with("suit a;", "day 1;");
        due.good("no fields", z.mean(0, 3), z);
        due.is("0", z.top(), 0);
        due.is("by 1", z.bottom(), 1);
        WaterPatience w = Due.with("suit a;field f of a dries 1;", "day 7;");
        due.good("3 each time", w.mean(0, 6), w);
        due.is("3", w.top(), 3);
        due.is("by 1", w.bottom(), 1);
    }

    private static void promises54and55() {
        WaterPatience x = Due.with(Due.VALLEY);
        due.refused("none", x.back(), x, 8);
        due.good("one", x.mark(), x, 1);
        x.tray(0, 0, 1);
        x.write(0, 0, 5);
        Due.seasons(x, "day 2;");
        x.run();
        x.rule(2);
        x.deal();
        x.sow(1, 0);
        due.good("two", x.mark(), x, 2);
        x.live(0);
        Due.valley(x, "suit other red;row other 1;");
        due.good("three", x.mark(), x, 3);
        due.refused("four", x.mark(), x, 7);
        x.run();
        due.good("left", x.back(), x, 2);
        due.good("the latest", x.many(10), x, 1);
        due.good("left", x.back(), x, 1);
        due.good("RED", x.many(13), x, 1);
        due.good("ranks", x.many(0), x, 3);
        due.good("law", x.many(2), x, 2);
        due.good("DAY", x.many(6), x, 0);
        due.good("WASTE", x.topOf(6), x, 8);
        due.good("HOME", x.many(9), x, 5);
        due.good("sown", x.field(1, 0), x, 0);
        due.good("the seasons", x.live(0), x, 1);
        due.good("names are known again", Due.seasons(x, "when home clubs > 0; end;"), x, 1);
        due.good("lived stays", x.lived(1), x, 2);
        due.good("left", x.back(), x, 0);
        due.refused("no seasons then", x.live(0), x, 8);
        due.good("rows", x.many(10), x, 5);
        due.good("stock", x.stockAt(0), x, 8);
        due.good("law", x.many(2), x, 0);
        due.good("field", x.field(1, 2), x, 1);
        due.good("its suit", x.field(1, 0), x, 1);
        due.good("trays stay", x.read(0, 0), x, 5);
        due.refused("none left", x.back(), x, 8);
        due.good("again", x.mark(), x, 1);
    }
}
