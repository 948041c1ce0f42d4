import java.util.ArrayList;
import java.util.Collections;
import java.util.List;
import java.util.Random;

/**
 * What a call tells at once is done by hand, on random valleys, by the calls that do it: a RUN card by card, YIELD, FIRST
 * and GAME move by move, CHEAT by telling the text with two cards changed, WETS by a shuffle, SEASONS step by step.
 *
 * <p>Nothing but the face is used, so that the class is held to its own simplest answers.
 */
public final class ByHandTest {
    private static final int VALLEYS = 200;
    private static final Edge edge = new Edge();

    private final Random random;
    private final Told told;
    private final int deals;

    private ByHandTest(int seed) {
        random = new Random(seed);
        told = new Told(random);
        deals = random.nextInt(told.stock.size() + 2);
    }

    public static void main(String[] args) {
        int valleys = args.length > 0 ? Integer.parseInt(args[0]) : VALLEYS;
        for (int seed = 0; seed < valleys; seed++) {
            ByHandTest test = new ByHandTest(seed);
            test.moves();
            test.run();
            test.plans();
            test.cheat();
            test.wets();
            test.seasons();
        }
        edge.end();
    }

    /** A valley, so that it can be told again with a change. */
    private static final class Told {
        final int ranks;
        final int suits;
        final List<List<Integer>> rows = new ArrayList<>();
        final List<Integer> stock = new ArrayList<>();
        final int fields;
        private final String ahead;
        private final StringBuilder behind = new StringBuilder();

        Told(Random random) {
            ranks = 1 + random.nextInt(6);
            suits = 1 + random.nextInt(4);
            StringBuilder text = new StringBuilder("ranks " + ranks + ";");
            for (int suit = 0; suit < suits; suit++) {
                text.append("suit ").append((char) ('a' + suit)).append(random.nextBoolean() ? " red;" : ";");
            }
            text.append("law ").append(random.nextInt(3)).append(";redeals ").append(random.nextInt(3)).append(';');
            ahead = text.toString();
            layOut(random);
            fields = random.nextInt(7);
            for (int field = 0; field < fields; field++) {
                behind.append("field ").append((char) ('f' + field)).append(" of ");
                behind.append((char) ('a' + random.nextInt(suits))).append(" dries ").append(random.nextInt(6));
                behind.append(" water ").append(random.nextInt(20)).append(" high ").append(1 + random.nextInt(25));
                behind.append(';');
            }
        }

        private void layOut(Random random) {
            for (int suit = 0; suit < suits; suit++) {
                for (int rank = 1; rank <= ranks; rank++) {
                    if (random.nextInt(12) > 0) {
                        stock.add(6 * suit + rank - 1);
                    }
                }
            }
            Collections.shuffle(stock, random);
            int most = 1 + random.nextInt(5);
            for (int row = random.nextInt(7); row > 0; row--) {
                List<Integer> cards = new ArrayList<>();
                for (int k = random.nextInt(most + 1); k > 0 && !stock.isEmpty(); k--) {
                    cards.add(stock.remove(stock.size() - 1));
                }
                rows.add(cards);
            }
        }

        private static void name(StringBuilder text, List<Integer> cards) {
            for (int card : cards) {
                text.append(' ').append((char) ('a' + card / 6)).append(' ').append(card % 6 + 1);
            }
            text.append(';');
        }

        String text() {
            StringBuilder text = new StringBuilder(ahead);
            for (List<Integer> row : rows) {
                text.append("row");
                name(text, row);
            }
            text.append("stock");
            name(text, stock);
            return text.append(behind).toString();
        }

        void change(int row, int k, int other, int j) {
            int card = rows.get(row).get(k);
            rows.get(row).set(k, rows.get(other).get(j));
            rows.get(other).set(j, card);
        }
    }

    private WaterPatience made() {
        WaterPatience x = Due.with(told.text());
        for (int i = 0; i < deals; i++) {
            x.deal();
        }
        return x;
    }

    private WaterPatience made(List<Integer> done) {
        WaterPatience x = made();
        for (int code : done) {
            x.move(code / 10, code % 10);
        }
        return x;
    }

    private String in(String what) {
        return what + " in \"" + told.text() + "\" behind " + deals + " deals";
    }

    private static int upTo(int rank) {
        return rank * (rank + 1) / 2;
    }

    private static int rank(int card) {
        return card % 6 + 1;
    }

    // ---- moves

    /** All MOVES, as canMove() tells them. */
    private List<Integer> movesOf(WaterPatience x) {
        List<Integer> codes = new ArrayList<>();
        for (int from = 0; from <= 6; from++) {
            for (int to = 0; to <= 7; to++) {
                if (x.canMove(from, to) == 1) {
                    codes.add(10 * from + to);
                }
            }
        }
        return codes;
    }

    private void moves() {
        edge.says("How many MOVES can be.");
        List<Integer> codes = movesOf(made());
        WaterPatience x = made();
        edge.on(x, codes.size(), "moves");
        for (int k = 0; k < codes.size(); k++) {
            edge.on(x, codes.get(k), "moveAt", k);
        }
        edge.refusedOn(x, 8, "moveAt", codes.size());
        edge.says("MOVE of the top CARD from a ROW or the WASTE to HOME, if it is the next of its SUIT;");
        for (int from = 0; from <= 6; from++) {
            int card = x.topOf(from);
            if (card != WaterPatience.NONE) {
                boolean next = x.homeOf(card / 6) + 1 == rank(card);
                edge.is(in("home from " + from), x.canMove(from, 7), next ? 1 : 0);
            }
        }
    }

    // ---- RUN

    private void run() {
        edge.says("RUN: as long as some top CARD (of ROWS, the WASTE) can come HOME, it does (in whatever order: it comes to "
                + "the same).");
        WaterPatience asked = made();
        WaterPatience run = made();
        WaterPatience slow = made();
        int many = run.run();
        edge.is(in("runs()"), asked.runs(), many);
        edge.is(in("a run by hand"), homeInAnyOrder(slow), many);
        for (int suit = 0; suit < told.suits; suit++) {
            edge.is(in("runWater(" + suit + ")"), asked.runWater(suit), upTo(slow.homeOf(suit)));
        }
        edge.is(in("what is there behind it"), Look.of(run).equals(Look.of(slow)) ? 1 : 0, 1);
    }

    private int homeInAnyOrder(WaterPatience x) {
        int many = 0;
        while (true) {
            List<Integer> from = new ArrayList<>();
            for (int place = 0; place <= 6; place++) {
                if (x.canMove(place, 7) == 1) {
                    from.add(place);
                }
            }
            if (from.isEmpty()) {
                return many;
            }
            x.move(from.get(random.nextInt(from.size())), 7);
            many++;
        }
    }

    // ---- YIELD, FIRST, GAME

    private void plans() {
        for (int n = 1; n <= 3; n++) {
            int set = random.nextInt(1 << told.suits);
            int[] best = mostBy(set, n, List.of());
            edge.says("YIELD of a set of SUITS in n MOVES (1 to 3; fewer, if there are none more): the most RANKS of them");
            edge.is(in("yields(" + set + ", " + n + ")"), made().yields(set, n), best[0]);
            edge.says("FIRST: of all first MOVES that lead to so much the least");
            edge.is(in("first(" + set + ", " + n + ")"), made().first(set, n), best[1]);
            edge.says("GAME of n MOVES (1 to 3): two by turns MOVE (who can't: it is over), the first first: RANKS of a set of "
                    + "SUITS that come HOME less those of the others, by best play.");
            edge.is(in("game(" + set + ", " + n + ")"), made().game(set, n), game(set, n, List.of()));
        }
    }

    private static List<Integer> with(List<Integer> done, int code) {
        List<Integer> more = new ArrayList<>(done);
        more.add(code);
        return more;
    }

    /** RANKS that a MOVE brings HOME, of the set or of the others. */
    private static int ranksBy(int card, int code, int set, boolean ofSet) {
        boolean counts = code % 10 == 7 && (set >> card / 6) % 2 == (ofSet ? 1 : 0);
        return counts ? rank(card) : 0;
    }

    /** The most RANKS, and the least first MOVE that leads to them (NONE without any). */
    private int[] mostBy(int set, int n, List<Integer> done) {
        int[] best = {0, WaterPatience.NONE};
        if (n == 0) {
            return best;
        }
        for (int code : movesOf(made(done))) {
            int card = made(done).topOf(code / 10);
            int ranks = ranksBy(card, code, set, true) + mostBy(set, n - 1, with(done, code))[0];
            if (best[1] == WaterPatience.NONE || ranks > best[0] || ranks == best[0] && code < best[1]) {
                best = new int[] {ranks, code};
            }
        }
        return best;
    }

    private int game(int set, int n, List<Integer> done) {
        List<Integer> all = new ArrayList<>();
        if (n > 0) {
            for (int code : movesOf(made(done))) {
                int card = made(done).topOf(code / 10);
                int ranks = ranksBy(card, code, set, true) - ranksBy(card, code, set, false);
                all.add(ranks + game(set, n - 1, with(done, code)));
            }
        }
        if (all.isEmpty()) {
            return 0;
        }
        return done.size() % 2 == 0 ? Collections.max(all) : Collections.min(all);
    }

    // ---- CHEAT

    private int[] wetBy() {
        WaterPatience x = made();
        x.run();
        int[] ranks = new int[told.suits];
        for (int suit = 0; suit < told.suits; suit++) {
            ranks[suit] = upTo(x.homeOf(suit));
        }
        return ranks;
    }

    private void cheat() {
        int[] best = wetBy();
        int[] lesser = new int[told.suits];
        int[] other = new int[told.suits];
        for (int a = 0; a < 600; a++) {
            for (int b = a + 1; b < 600; b++) {
                if (isPlace(a) && isPlace(b)) {
                    told.change(a / 100, a % 100, b / 100, b % 100);
                    int[] ranks = wetBy();
                    told.change(a / 100, a % 100, b / 100, b % 100);
                    for (int suit = 0; suit < told.suits; suit++) {
                        if (ranks[suit] > best[suit]) {
                            best[suit] = ranks[suit];
                            lesser[suit] = a;
                            other[suit] = b;
                        }
                    }
                }
            }
        }
        edge.says("CHEAT for a SUIT: two CARDS of ROWS change places, so that by a RUN behind that the most RANKS of that SUIT "
                + "come HOME: RANKS; of several couples the first by PLACES");
        WaterPatience x = made();
        for (int suit = 0; suit < told.suits; suit++) {
            edge.is(in("cheat(" + suit + ")"), x.cheat(suit), best[suit]);
            boolean changed = other[suit] > 0;
            edge.is(in("cheatAt(" + suit + ", 0)"), x.cheatAt(suit, 0), changed ? lesser[suit] : WaterPatience.NONE);
            edge.is(in("cheatAt(" + suit + ", 1)"), x.cheatAt(suit, 1), changed ? other[suit] : WaterPatience.NONE);
            edge.is(in("status of that"), x.status(), changed ? 0 : 8);
        }
    }

    private boolean isPlace(int place) {
        return place / 100 < told.rows.size() && place % 100 < told.rows.get(place / 100).size();
    }

    // ---- WETS

    private void wets() {
        edge.says("WETS of a SUIT by a seed: its RANKS that come HOME by a RUN then (nothing is dealt).");
        WaterPatience x = made();
        for (int i = 0; i < 5; i++) {
            int seed = random.nextInt(10000);
            WaterPatience dealt = made();
            dealt.shuffle(seed);
            for (int row = 0; row < told.rows.size(); row++) {
                edge.is(in("packTop(" + row + ", " + seed + ")"), x.packTop(row, seed), dealt.topOf(row));
            }
            homeInAnyOrder(dealt);
            for (int suit = 0; suit < told.suits; suit++) {
                edge.is(in("wets(" + suit + ", " + seed + ")"), x.wets(suit, seed), upTo(dealt.homeOf(suit)));
            }
        }
    }

    // ---- SEASONS

    private record Step(String word, int a, int b, String test, int thing, String sign, List<Step> body) {
        void write(StringBuilder text) {
            text.append(word);
            switch (word) {
                case "day", "loop" -> text.append(' ').append(a);
                case "move" -> text.append(' ').append(a).append(' ').append(b);
                case "when" -> text.append(' ').append(told());
                default -> { }
            }
            text.append(';');
            if (body != null) {
                body.forEach(step -> step.write(text));
                text.append("end;");
            }
        }

        private String told() {
            if (test.equals("stuck")) {
                return test;
            }
            char name = (char) ((test.equals("home") ? 'a' : 'f') + thing);
            return test + " " + name + sign + a;
        }

        int count() {
            return 1 + (body == null ? 0 : body.stream().mapToInt(Step::count).sum());
        }
    }

    private List<Step> steps(int most, int deeper) {
        List<Step> all = new ArrayList<>();
        for (int i = random.nextInt(most) + 1; i > 0; i--) {
            all.add(step(deeper));
        }
        return all;
    }

    private Step step(int deeper) {
        String[] words = {"day", "move", "deal", "run", "any", "any", "any", "deal", "stop", "when", "when", "loop"};
        String word = words[random.nextInt(deeper > 0 ? 12 : random.nextInt(8) == 0 ? 9 : 8)];
        List<Step> body = word.equals("when") || word.equals("loop") ? steps(3, deeper - 1) : null;
        boolean home = told.fields == 0 || random.nextBoolean();
        String test = random.nextInt(4) == 0 ? "stuck" : home ? "home" : "water";
        int thing = random.nextInt(home ? told.suits : told.fields);
        String sign = List.of("<", ">", "=").get(random.nextInt(3));
        int a = switch (word) {
            case "day" -> 1 + random.nextInt(3);
            case "loop" -> 1 + random.nextInt(4);
            case "move" -> random.nextInt(7);
            default -> test.equals("water") ? random.nextInt(20) : random.nextInt(3);
        };
        return new Step(word, a, random.nextInt(8), test, thing, sign, body);
    }

    /** Does STEPS by the calls that do them. */
    private static final class Hand {
        private static final int FEW = 50;
        final WaterPatience x;
        int s;
        int done;
        int missed;
        int days;
        int came;
        int made;
        boolean stopped;

        Hand(WaterPatience x, int seed) {
            this.x = x;
            s = seed;
        }

        void all(List<Step> steps) {
            for (Step step : steps) {
                if (stopped || done > FEW) {
                    return;
                }
                done++;
                one(step);
            }
        }

        private void one(Step step) {
            switch (step.word()) {
                case "day" -> days += x.day(step.a()) == WaterPatience.NONE ? 0 : step.a();
                case "move" -> move(step.a(), step.b());
                case "deal" -> {
                    x.deal();
                    missed += x.status() == 0 ? 0 : 1;
                }
                case "run" -> {
                    int cards = x.run();
                    came += cards;
                    missed += cards > 0 ? 0 : 1;
                }
                case "any" -> any();
                case "stop" -> stopped = true;
                case "when" -> {
                    if (holds(step)) {
                        all(step.body());
                    }
                }
                default -> {
                    for (int i = 0; i < step.a(); i++) {
                        all(step.body());
                    }
                }
            }
        }

        private void move(int from, int to) {
            if (x.move(from, to) == WaterPatience.NONE) {
                missed++;
                return;
            }
            made++;
            came += to == 7 ? 1 : 0;
        }

        private void any() {
            int moves = x.moves();
            if (moves == 0) {
                missed++;
                return;
            }
            s = (s * 2971 + 10711) % 65536;
            int code = x.moveAt(s / 8 % moves);
            move(code / 10, code % 10);
        }

        private boolean holds(Step step) {
            if (step.test().equals("stuck")) {
                return x.moves() == 0;
            }
            int is = step.test().equals("home") ? x.homeOf(step.thing()) : x.field(step.thing(), 2);
            return switch (step.sign()) {
                case "<" -> is < step.a();
                case ">" -> is > step.a();
                default -> is == step.a();
            };
        }
    }

    private void seasons() {
        for (int i = 0; i < 6; i++) {
            List<Step> steps = steps(6, 3);
            StringBuilder text = new StringBuilder();
            steps.forEach(step -> step.write(text));
            int count = steps.stream().mapToInt(Step::count).sum();
            if (count <= 30 && text.length() <= 300) {
                seasons(steps, text.toString(), count);
            }
        }
    }

    private void seasons(List<Step> steps, String text, int count) {
        edge.says("SEASONS: {STEP}.");
        WaterPatience x = made();
        Due.tape(x, text);
        edge.on(x, count, "seasons", text.length());
        int seed = random.nextInt(10000 - 3);
        long water = 0;
        int few = 0;
        for (int i = 0; i < 3; i++) {
            Hand hand = new Hand(made(), seed + i);
            hand.all(steps);
            few += hand.done > Hand.FEW ? 0 : 1;
            for (int field = 0; field < told.fields; field++) {
                water += hand.x.field(field, 2);
            }
        }
        if (few == 3) {
            edge.says("The FRACTION is the mean of WATER in all FIELDS together behind the SEASONS");
            edge.on(x, 1, "mean", seed, 3);
            edge.is(in("3 times the top of the mean of \"" + text + "\""), 3 * x.top(), water * x.bottom());
            lived(x, steps, text, seed);
        }
    }

    private void lived(WaterPatience x, List<Step> steps, String text, int seed) {
        edge.says("LIVED by a seed (0 to 9,999): all is as it is then.");
        Hand hand = new Hand(made(), seed);
        Due.seasons(hand.x, text);
        hand.all(steps);
        edge.on(x, hand.done, "live", seed);
        int[] want = {hand.missed, hand.days, hand.came, hand.made, 0};
        for (int what = 0; what <= 4; what++) {
            edge.is(in("lived(" + what + ") of \"" + text + "\""), x.lived(what), want[what]);
        }
        String got = state(x);
        edge.is(in("what is there behind \"" + text + "\": " + got), got.equals(state(hand.x)) ? 1 : 0, 1);
    }

    /** All that SEASONS can change. */
    private String state(WaterPatience x) {
        StringBuilder out = new StringBuilder();
        for (int what = 0; what <= 13; what++) {
            out.append(x.many(what)).append(' ');
        }
        for (int row = 0; row < told.rows.size(); row++) {
            for (int k = 0; k < x.length(row); k++) {
                out.append(x.card(row, k)).append(' ');
            }
            out.append("; ");
        }
        for (int suit = 0; suit < told.suits; suit++) {
            out.append(x.homeOf(suit)).append(' ');
        }
        for (int field = 0; field < told.fields; field++) {
            out.append(x.field(field, 2)).append(' ').append(x.field(field, 4)).append(' ');
        }
        for (int k = 0; k < x.many(7); k++) {
            out.append(x.stockAt(k)).append(' ');
        }
        return out.append(x.topOf(6)).toString();
    }
}
