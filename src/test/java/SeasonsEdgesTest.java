/** Boundary cases of promises 51 to 55, and of part 4 of the terms: seasons that are lived, marks. */
public final class SeasonsEdgesTest {
    private static final int LEAST = Integer.MIN_VALUE;
    private static final int MOST = Integer.MAX_VALUE;
    private static final String FIELDS = "suit a;field f of a dries 0;field g of a dries 1 water 99;";
    private static final Edge edge = new Edge();

    public static void main(String[] args) {
        promise51();
        days();
        moves();
        dealsAndRuns();
        anys();
        whens();
        waters();
        loops();
        threeHundred();
        promise52();
        promise53();
        promise54();
        promise55();
        edge.end("live", "lived", "mean", "mark", "back");
    }

    private static void promise51() {
        edge.says("LIVED: how many STEPS were done (5; 8: no SEASONS).");
        edge.in(Edge::taped);
        edge.gives(4, "live", 0);
        edge.gives(4, "live", 9999);
        for (int seed : new int[] {-1, 10000, LEAST, MOST}) {
            edge.refused(5, "live", seed);
        }
        edge.in(WaterPatience::new);
        edge.refused(8, "live", 0);
        edge.refused(8, "live", 9999);
        edge.refused(5, "live", -1);
        edge.refused(5, "live", 10000);
        edge.in(Edge.of(Due.VALLEY));
        edge.refused(8, "live", 0);
        edge.in(Edge.of(FIELDS, "day 1;"));
        edge.gives(1, "live", 0);
        edge.in(Edge.of(FIELDS, "stop;day 1;"));
        edge.on(edge.gives(1, "live", 0), 0, "many", 6);
        edge.in(Edge.of(FIELDS, Due.times("stop;", 30)));
        edge.gives(1, "live", 0);
        edge.in(Edge.of(FIELDS, Due.times("day 1;", 30)));
        edge.on(edge.gives(30, "live", 0), 30, "many", 6);
    }

    /** What live() latest told: MISSED, DAYS, CARDS, MOVES, what was left. */
    private static void lived(WaterPatience x, int... want) {
        for (int what = 0; what <= 4; what++) {
            edge.on(x, want[what], "lived", what);
        }
    }

    private static WaterPatience onDay(int day, String seasons) {
        WaterPatience x = Due.with(FIELDS, seasons);
        while (x.many(6) < day) {
            x.day(Math.min(99, day - x.many(6)));
        }
        return x;
    }

    private static void days() {
        edge.says("What can't be is MISSED: DAYS beyond 9,999 (as a whole)");
        WaterPatience x = onDay(9979, "day 20;");
        edge.on(x, 1, "live", 0);
        edge.on(x, 9999, "many", 6);
        lived(x, 0, 20, 0, 0, 0);
        WaterPatience y = onDay(9980, "day 20;");
        edge.on(y, 1, "live", 0);
        edge.on(y, 9980, "many", 6);
        lived(y, 1, 0, 0, 0, 0);
        WaterPatience z = onDay(9980, "day 20;day 19;day 1;");
        edge.on(z, 3, "live", 0);
        edge.on(z, 9999, "many", 6);
        lived(z, 2, 19, 0, 0, 0);
        WaterPatience last = onDay(9999, "day 1;");
        edge.on(last, 1, "live", 0);
        edge.on(last, 9999, "many", 6);
        lived(last, 1, 0, 0, 0, 0);
        WaterPatience dry = Due.with(FIELDS, "loop 5;day 20;end;");
        edge.on(dry, 6, "live", 0);
        edge.on(dry, 2, "many", 11);
        WaterPatience wet = Due.with(FIELDS, "loop 9;day 11;end;");
        edge.on(wet, 10, "live", 0);
        edge.on(wet, 0, "many", 11);
        edge.on(wet, 0, "field", 1, 2);
    }

    private static void moves() {
        edge.says("a move (of no such PLACES, too)");
        String[] missed = {"0 0", "1 1", "0 1", "0 6", "6 6", "6 7", "6 0", "3 7", "5 7", "4 4", "0 3", "0 5", "2 7", "1 7"};
        for (String places : missed) {
            edge.in(Edge.of("suit a;suit b;row a 2;row b 3;row b 2;", "move " + places + ";"));
            WaterPatience x = edge.gives(1, "live", 0);
            lived(x, 1, 0, 0, 0, 0);
            edge.on(x, 3, "many", 10);
        }
        edge.in(Edge.of("suit a;row;row;row;row;row;row a 1;", "move 5 0;move 0 5;move 5 7;move 5 7;"));
        WaterPatience x = edge.gives(4, "live", 0);
        lived(x, 1, 0, 1, 3, 0);
        edge.in(Edge.of("suit a;row;stock a 1;", "deal;move 6 0;move 0 7;"));
        lived(edge.gives(3, "live", 0), 0, 0, 1, 2, 0);
        edge.in(Edge.of("suit a;stock a 1;", "deal;move 6 7;"));
        lived(edge.gives(2, "live", 0), 0, 0, 1, 1, 0);
        edge.in(() -> {
            WaterPatience empty = new WaterPatience();
            Due.seasons(empty, "move 0 7;move 6 7;move 6 6;deal;run;any;");
            return empty;
        });
        lived(edge.gives(6, "live", 0), 6, 0, 0, 0, 0);
    }

    private static void dealsAndRuns() {
        edge.says("a deal that can't be, a run without CARDS");
        edge.in(Edge.of("suit a;row a 2;", "deal;"));
        lived(edge.gives(1, "live", 0), 1, 0, 0, 0, 0);
        edge.in(Edge.of("suit a;redeals 1;row a 2;", "deal;"));
        lived(edge.gives(1, "live", 0), 1, 0, 0, 0, 0);
        edge.in(Edge.of("suit a;redeals 1;stock a 3 a 2;", "loop 6;deal;end;"));
        WaterPatience x = edge.gives(7, "live", 0);
        lived(x, 1, 0, 0, 0, 0);
        edge.on(x, 0, "many", 3);
        edge.on(x, 2, "many", 8);
        edge.in(Edge.of("suit a;row a 1 a 2;", "run;"));
        lived(edge.gives(1, "live", 0), 1, 0, 0, 0, 0);
        edge.in(Edge.of("suit a;row a 1;", "run;run;"));
        lived(edge.gives(2, "live", 0), 1, 0, 1, 0, 0);
        edge.in(Edge.of("ranks 6;suit a;row a 6 a 5 a 4 a 3 a 2 a 1;field f of a dries 0 high 31;", "run;"));
        WaterPatience six = edge.gives(1, "live", 0);
        lived(six, 0, 0, 6, 0, 0);
        edge.on(six, 31, "field", 0, 2);
        edge.on(six, 0, "field", 0, 4);
    }

    private static void anys() {
        edge.says("any without MOVES (no draw)");
        edge.in(Edge.of("suit a;row a 2;", "any;any;"));
        lived(edge.gives(2, "live", 0), 2, 0, 0, 0, 0);
        edge.says("the draw by n is the rest of s by 8, rounded down, by n.");
        for (int seed : new int[] {0, 1, 2, 3, 4, 5, 6, 7, 8, 9, 10, 11, 12, 9998, 9999}) {
            // none at first; then a 2 onto row 0 or 1
            WaterPatience x = Due.with("law 1;suit a;suit b;suit c;row a 3;row b 3;row c 3;stock a 2;", "any;deal;any;");
            edge.on(x, 3, "live", seed);
            lived(x, 1, 0, 0, 1, 0);
            int row = (seed * 2971 + 10711) % 65536 / 8 % 3;
            edge.is("a 2 by seed " + seed, x.length(row), 2);
        }
        manyDraws();
        edge.says("any: of all MOVES that can be, in order (by the PLACE from where, then where to), one by a draw by how many "
                + "they are.");
        WaterPatience one = Due.with("suit a;row a 1;", "any;any;");
        edge.on(one, 2, "live", 9999);
        lived(one, 1, 0, 1, 1, 0);
        for (int seed = 0; seed < 30; seed++) {
            WaterPatience x = Due.with("suit a;row a 2;row;row;row;row;row;", "any;any;any;");
            x.live(seed);
            int at = 0;
            int s = seed;
            for (int i = 0; i < 3; i++) {
                s = (s * 2971 + 10711) % 65536;
                int pick = s / 8 % 5;
                at = pick < at ? pick : pick + 1;
            }
            edge.is("where a 2 lies by seed " + seed, x.length(at), 1);
        }
    }

    /** One card goes about six rows; by many draws s comes to all parts of what 65,536 leaves. */
    private static void manyDraws() {
        edge.says("Draws: s, at first the seed, becomes what is left of s times 2,971 and 10,711 by 65,536");
        for (int seed : new int[] {0, 1, 22, 4711, 9998, 9999}) {
            for (int draws : new int[] {1, 2, 98, 99}) {
                WaterPatience x = Due.with("suit a;row a 2;row;row;row;row;row;", "loop " + draws + ";any;end;");
                edge.on(x, draws + 1, "live", seed);
                long s = seed;
                int at = 0;
                for (int i = 0; i < draws; i++) {
                    s = (s * 2971 + 10711) % 65536;
                    int pick = (int) (s / 8 % 5);
                    at = pick < at ? pick : pick + 1;
                }
                edge.is("where a 2 lies by seed " + seed + " and " + draws + " draws", x.length(at), 1);
            }
        }
    }

    private static void whens() {
        edge.says("when home: how many CARDS of a SUIT are HOME (0 to 6); water: 0 to 99; stuck: no MOVE can be.");
        for (int home = 0; home <= 6; home++) {
            for (int number = 0; number <= 6; number++) {
                WaterPatience x = Due.with("ranks 6;suit b;suit a;row a 6 a 5 a 4 a 3 a 2 a 1;");
                for (int i = 0; i < home; i++) {
                    x.move(0, 7);
                }
                Due.seasons(x, "when home a<" + number + ";day 1;end;when home a=" + number + ";day 4;end;"
                        + "when home a>" + number + ";day 16;end;");
                edge.on(x, 4, "live", 0);
                edge.on(x, home < number ? 1 : home == number ? 4 : 16, "many", 6);
            }
        }
        WaterPatience stuck = Due.with("suit a;row a 2;stock a 1;", "when stuck;deal;end;when stuck;day 1;end;");
        edge.on(stuck, 3, "live", 0);
        edge.on(stuck, 1, "many", 8);
        edge.on(stuck, 0, "many", 6);
        WaterPatience empty = Due.with("suit a;row a 2;row;", "when stuck;day 1;end;");
        edge.on(empty, 1, "live", 0);
        WaterPatience none = new WaterPatience();
        Due.seasons(none, "when stuck;day 1;end;");
        edge.on(none, 2, "live", 0);
    }

    private static void waters() {
        edge.says("water: 0 to 99");
        for (int water : new int[] {0, 1, 98, 99}) {
            for (int number : new int[] {0, 1, 98, 99}) {
                WaterPatience x = Due.with("suit a;field e of a dries 0 water 50;field f of a dries 0 water " + water + ";");
                Due.seasons(x, "when water f<" + number + ";day 1;end;when water f=" + number + ";day 4;end;"
                        + "when water f>" + number + ";day 16;end;");
                edge.on(x, 4, "live", 0);
                edge.on(x, water < number ? 1 : water == number ? 4 : 16, "many", 6);
            }
        }
        WaterPatience rotten = Due.with(FIELDS);
        rotten.rain(1, 99);
        Due.seasons(rotten, "when water g > 99;day 1;end;");
        edge.on(rotten, 2, "live", 0);
        WaterPatience withered = Due.with("suit a;field f of a dries 20;");
        withered.day(1);
        Due.seasons(withered, "when water f = 0;day 1;end;");
        edge.on(withered, 2, "live", 0);
    }

    private static void loops() {
        edge.says("loop n (1 to 99): as often.");
        edge.in(Edge.of(FIELDS, "loop 1;day 1;end;"));
        edge.on(edge.gives(2, "live", 0), 1, "many", 6);
        edge.in(Edge.of(FIELDS, "loop 99;day 1;end;day 1;"));
        edge.on(edge.gives(101, "live", 0), 100, "many", 6);
        edge.in(Edge.of(FIELDS, "loop 99;end;"));
        edge.gives(1, "live", 0);
        edge.in(Edge.of(FIELDS, "loop 2;loop 3;loop 4;day 1;end;end;end;"));
        edge.on(edge.gives(1 + 2 + 6 + 24, "live", 0), 24, "many", 6);
        edge.in(Edge.of(FIELDS, "loop 3;when stuck;loop 2;day 1;end;end;end;"));
        edge.on(edge.gives(1 + 3 + 3 + 6, "live", 0), 6, "many", 6);
        edge.in(Edge.of(FIELDS, "loop 3;loop 2;day 1;end;stop;end;day 1;"));
        edge.on(edge.gives(1 + 1 + 2 + 1, "live", 0), 2, "many", 6);
        edge.in(Edge.of(FIELDS, "loop 3;when home a > 0;day 1;end;end;"));
        edge.on(edge.gives(4, "live", 0), 0, "many", 6);
        stoppedWithin();
        WaterPatience again = Due.with(FIELDS, "loop 2;day 1;end;");
        for (int times = 1; times <= 3; times++) {
            edge.on(again, 3, "live", 0);
            edge.on(again, 2 * times, "many", 6);
        }
    }

    /** What a loop had left to do when it was stopped is nothing to what is lived then. */
    private static void stoppedWithin() {
        edge.says("LIVED by a seed (0 to 9,999): all is as it is then.");
        WaterPatience x = Due.with(FIELDS, "loop 9;day 1;stop;end;");
        edge.on(x, 3, "live", 0);
        edge.on(x, 3, "live", 0);
        edge.on(x, 2, "many", 6);
        Due.seasons(x, "when stuck;day 1;end;");
        edge.on(x, 2, "live", 0);
        edge.on(x, 3, "many", 6);
        Due.seasons(x, "loop 2;day 1;end;");
        edge.on(x, 3, "live", 0);
        edge.on(x, 5, "many", 6);
    }

    private static void threeHundred() {
        edge.says("At most 300 STEPS (when, loop count as one each time they are come to from ahead; end does not).");
        // 1 and 99 times 3: 298
        cut("loop 99;day 1;day 1;day 1;end;", 298, 297, 0);
        cut("loop 99;day 1;day 1;day 1;end;day 1;", 299, 298, 0);
        cut("loop 99;day 1;day 1;day 1;end;day 1;day 1;", 300, 299, 0);
        cut("loop 99;day 1;day 1;day 1;end;day 1;day 1;day 1;", 300, 299, 1);
        cut("loop 99;day 1;day 1;day 1;end;day 1;day 1;stop;", 300, 299, 1);
        cut("loop 99;day 1;day 1;day 1;end;day 1;stop;day 1;", 300, 298, 0);
        cut("loop 99;day 1;day 1;day 1;end;day 1;day 1;loop 9;end;", 300, 299, 1);
        cut("loop 99;day 1;day 1;day 1;end;day 1;loop 9;end;", 300, 298, 0);
        cut("loop 99;day 1;day 1;day 1;end;day 1;day 1;when stuck;end;", 300, 299, 1);
        cut("loop 99;day 1;day 1;day 1;end;day 1;when stuck;end;", 300, 298, 0);
        cut("loop 99;day 1;day 1;day 1;end;day 1;when home a > 0;day 1;end;", 300, 298, 0);
        cut("loop 99;day 1;day 1;day 1;end;day 1;when home a = 0;day 1;end;", 300, 298, 1);
        cut("loop 99;day 1;day 1;day 1;end;day 1;loop 1;day 1;end;", 300, 298, 1);
        cut("loop 99;day 1;day 1;day 1;day 1;end;", 300, 299, 1);
        cut("loop 2;loop 50;day 1;deal;end;end;", 203, 100, 0);
        cut("loop 3;loop 49;day 1;deal;end;end;loop 2;end;", 299, 147, 0);
        cut("loop 3;loop 49;day 1;deal;end;end;loop 2;day 1;end;", 300, 148, 1);
        cut("loop 3;loop 49;day 1;deal;end;end;loop 1;day 1;end;", 300, 148, 0);
        cut("loop 99;loop 99;loop 99;end;end;end;", 300, 0, 1);
        cut("loop 99;when stuck;day 1;end;when stuck;end;end;", 298, 99, 0);
    }

    private static void cut(String seasons, int done, int days, int left) {
        // nothing can be moved, so that stuck holds
        WaterPatience x = Due.with("suit a;row a 2;", seasons);
        edge.on(x, done, "live", 0);
        edge.on(x, days, "many", 6);
        edge.on(x, days, "lived", 1);
        edge.on(x, left, "lived", 4);
    }

    private static void promise52() {
        edge.says("Of live() latest with STATUS 0, what 0: MISSED, 1: DAYS, 2: CARDS that came HOME (by run, too), 3: MOVES "
                + "that were made by move and any, 4: 1 if a STEP was left to be done, else 0 (5; 8: there was none).");
        edge.in(Edge::taped);
        int[] want = {4, 1, 0, 1, 0};
        for (int what = 0; what <= 4; what++) {
            edge.asks(want[what], "lived", what);
        }
        for (int what : new int[] {-1, 5, LEAST, MOST}) {
            edge.refused(5, "lived", what);
        }
        edge.in(WaterPatience::new);
        for (int what = 0; what <= 4; what++) {
            edge.refused(8, "lived", what);
        }
        edge.refused(5, "lived", -1);
        edge.refused(5, "lived", 5);
        edge.in(Edge.of(FIELDS, "day 1;"));
        edge.refused(8, "lived", 0);
        WaterPatience x = Edge.taped();
        edge.refusedOn(x, 5, "live", 10000);
        lived(x, want);
        x.mean(0, 20);
        lived(x, want);
        x.back();
        x.back();
        edge.refusedOn(x, 8, "live", 0);
        lived(x, want);
        Due.valley(x, "suit a;");
        lived(x, want);
        WaterPatience twice = Due.with("suit a;row a 2 a 1;", "run;day 3;deal;");
        edge.on(twice, 3, "live", 0);
        lived(twice, 1, 3, 2, 0, 0);
        edge.on(twice, 3, "live", 0);
        lived(twice, 2, 3, 0, 0, 0);
        Due.seasons(twice, "loop 99;deal;deal;deal;deal;end;");
        edge.on(twice, 300, "live", 0);
        lived(twice, 299, 0, 0, 0, 1);
        Due.seasons(twice, "stop;");
        edge.on(twice, 1, "live", 0);
        lived(twice, 0, 0, 0, 0, 0);
        WaterPatience moved = Due.with("suit a;row a 1;row;", "move 0 1;");
        edge.on(moved, 1, "live", 0);
        lived(moved, 0, 0, 0, 1, 0);
        edge.on(moved, 1, "live", 0);
        lived(moved, 1, 0, 0, 0, 0);
        WaterPatience trial = Due.with(FIELDS, "day 1;");
        trial.mean(0, 1);
        edge.refusedOn(trial, 8, "lived", 0);
        trial.live(-1);
        edge.refusedOn(trial, 8, "lived", 0);
    }

    private static void promise53() {
        edge.says("The FRACTION is the mean of WATER in all FIELDS together behind the SEASONS, by so many seeds (1 to 20) from "
                + "one on (all stays as it is) (5: the last above 9,999, too; 8).");
        edge.in(Edge::taped);
        for (int[] fine : new int[][] {{0, 1}, {0, 20}, {9999, 1}, {9980, 20}, {9998, 2}, {77, 19}}) {
            long sum = 0;
            for (int seed = fine[0]; seed < fine[0] + fine[1]; seed++) {
                WaterPatience x = Edge.taped();
                x.live(seed);
                sum += x.field(0, 2) + x.field(1, 2) + x.field(2, 2);
            }
            long divisor = 1;
            for (long d = 2; d <= fine[1]; d++) {
                divisor = sum % d == 0 && fine[1] % d == 0 ? d : divisor;
            }
            edge.tells(sum / divisor, fine[1] / divisor, "mean", fine[0], fine[1]);
        }
        int[][] wrong = {{-1, 1}, {10000, 1}, {0, 0}, {5, 0}, {9999, 0}, {0, -1}, {5, -1}, {0, 21}, {9999, 2}, {9981, 20}, {9980, 21}, {LEAST, 1},
            {MOST, 1}, {0, LEAST}, {0, MOST}, {MOST, MOST}, {LEAST, MOST}};
        for (int[] w : wrong) {
            edge.refused(5, "mean", w[0], w[1]);
        }
        edge.in(WaterPatience::new);
        edge.refused(8, "mean", 0, 1);
        edge.refused(8, "mean", 9980, 20);
        for (int[] w : wrong) {
            edge.refused(5, "mean", w[0], w[1]);
        }
        fewerFields();
        edge.in(Edge.of("suit a;", "day 1;"));
        edge.tells(0, 1, "mean", 0, 20);
        edge.in(Edge.of(FIELDS, "day 9;"));
        edge.tells(100, 1, "mean", 0, 20);
    }

    /** The fields of a valley ahead are none of these. */
    private static void fewerFields() {
        WaterPatience x = Edge.full();
        x.mark();
        Due.seasons(x, "day 1;");
        edge.on(x, 1, "mean", 0, 1);
        edge.is("10 less 0 to 5", x.top(), 60 - 15);
        Due.valley(x, FIELDS);
        Due.seasons(x, "day 1;");
        edge.on(x, 1, "mean", 0, 1);
        edge.is("10, and 99 less 1", x.top(), 108);
        Due.valley(x, "suit a;");
        x.seasons(0);
        edge.on(x, 1, "mean", 0, 1);
        edge.is("no fields", x.top(), 0);
        edge.is("by 1", x.bottom(), 1);
    }

    private static void promise54() {
        edge.says("A MARK more: how many there are (7).");
        edge.in(WaterPatience::new);
        WaterPatience x = edge.gives(1, "mark");
        edge.on(x, 2, "mark");
        edge.on(x, 3, "mark");
        edge.refusedOn(x, 7, "mark");
        edge.refusedOn(x, 7, "mark");
        edge.on(x, 2, "back");
        edge.on(x, 3, "mark");
        edge.refusedOn(x, 7, "mark");
        edge.says("MARKS, at most 3: the VALLEY with all that became of it, the SEASONS are kept as they are");
        edge.in(() -> {
            WaterPatience y = Edge.taped();
            y.mark();
            y.day(1);
            y.rain(0, 1);
            return y;
        });
        edge.refused(7, "mark");
        edge.in(Edge::taped);
        edge.gives(3, "mark");
        WaterPatience marked = Edge.taped();
        marked.mark();
        marked.back();
        edge.is("a mark and back", Look.of(marked).equals(Look.of(Edge.taped())) ? 1 : 0, 1);
    }

    private static void promise55() {
        edge.says("All is taken back to the latest MARK: how many there are left (8).");
        edge.in(WaterPatience::new);
        edge.refused(8, "back");
        edge.in(Edge.of(Due.VALLEY, "day 1;"));
        edge.refused(8, "back");
        edge.says("all is taken back to the latest MARK, which is gone then.");
        edge.in(Edge::taped);
        WaterPatience x = edge.gives(1, "back");
        edge.on(x, 0, "back");
        edge.refusedOn(x, 8, "back");
        edge.refusedOn(x, 8, "back");
        edge.on(x, 1, "mark");
        edge.on(x, 0, "back");
        WaterPatience three = Due.with(FIELDS);
        for (int day = 1; day <= 3; day++) {
            edge.on(three, day, "mark");
            three.day(1);
            Due.seasons(three, Due.times("deal;", day));
        }
        for (int left = 2; left >= 0; left--) {
            edge.on(three, left, "back");
            edge.on(three, left, "many", 6);
            if (left > 0) {
                edge.on(three, left, "live", 0);
            } else {
                edge.refusedOn(three, 8, "live", 0);
            }
        }
        taken();
    }

    /** Each thing that can become of a valley is taken back; what is no part of it stays. */
    private static void taken() {
        edge.says("the VALLEY with all that became of it, the SEASONS are kept as they are; all is taken back");
        WaterPatience x = Edge.taped();
        x.mark();
        x.move(0, 7);
        x.run();
        x.deal();
        x.deal();
        x.day(9);
        x.sow(1, 0);
        x.rain(1, 99);
        x.rule(2);
        x.live(1);
        x.shuffle(3);
        Due.seasons(x, "deal;");
        x.back();
        WaterPatience was = Edge.taped();
        for (int what = 0; what <= 13; what++) {
            edge.on(x, was.many(what), "many", what);
        }
        for (int field = 0; field < 3; field++) {
            for (int what = 0; what <= 4; what++) {
                edge.on(x, was.field(field, what), "field", field, what);
            }
        }
        for (int row = 0; row < 3; row++) {
            for (int k = 0; k < was.length(row); k++) {
                edge.on(x, was.card(row, k), "card", row, k);
            }
        }
        edge.on(x, 8, "topOf", 6);
        edge.on(x, 4, "live", 0);
        Due.valley(x, "suit z;");
        x.write(0, 0, 77);
        edge.on(x, 1, "back");
        edge.on(x, 2, "many", 1);
        edge.on(x, 77, "read", 0, 0);
        edge.is("the names are those of that valley", Due.seasons(x, "when home hearts = 0;end;when water bean = 1;end;"), 2);
    }
}
