import java.util.ArrayDeque;
import java.util.ArrayList;
import java.util.Arrays;
import java.util.Deque;
import java.util.HashSet;
import java.util.List;
import java.util.Set;
import java.util.TreeMap;

/** The document written down a second time, as plainly as the Java library lets one, to be compared with the class. */
final class Model {
    static final class Fault extends RuntimeException {
        final int kind;
        final int place;

        Fault(int kind, int place) {
            super(null, null, false, false);
            this.kind = kind;
            this.place = place;
        }
    }

    static final class Refused extends RuntimeException {
        final int status;

        Refused(int status) {
            super(null, null, false, false);
            this.status = status;
        }
    }

    static final class Halt extends RuntimeException {
        Halt() {
            super(null, null, false, false);
        }
    }

    record Card(int suit, int rank) {
        int number() {
            return 6 * suit + rank - 1;
        }
    }

    record Token(char sort, String text, int place) {
        int number() {
            return Integer.parseInt(text);
        }
    }

    record Step(String word, String test, String compare, int a, int b, List<Step> body) {
    }

    record Move(int from, int to) {
        int code() {
            return 10 * from + to;
        }
    }

    static final class Field {
        String name;
        int suit;
        int dries;
        int water = 10;
        int high = 99;
        int fate;

        Field copy() {
            Field f = new Field();
            f.name = name;
            f.suit = suit;
            f.dries = dries;
            f.water = water;
            f.high = high;
            f.fate = fate;
            return f;
        }

        void get(int much) {
            if (fate == 0) {
                water += much;
                if (water > high) {
                    fate = 2;
                }
            }
        }
    }

    static final class World {
        int ranks = 4;
        List<String> suits = new ArrayList<>();
        Set<Integer> red = new HashSet<>();
        int law;
        int redeals;
        List<List<Card>> rows = new ArrayList<>();
        List<Card> stock = new ArrayList<>();
        List<Card> waste = new ArrayList<>();
        int[] home = new int[4];
        List<Field> fields = new ArrayList<>();
        int day;
        List<Step> seasons;

        World copy() {
            World w = new World();
            w.ranks = ranks;
            w.suits.addAll(suits);
            w.red.addAll(red);
            w.law = law;
            w.redeals = redeals;
            for (List<Card> row : rows) {
                w.rows.add(new ArrayList<>(row));
            }
            w.stock.addAll(stock);
            w.waste.addAll(waste);
            w.home = home.clone();
            for (Field f : fields) {
                w.fields.add(f.copy());
            }
            w.day = day;
            w.seasons = seasons;
            return w;
        }

        List<Card> pile(int place) {
            return place == 6 ? waste : rows.get(place);
        }

        boolean isFrom(int p) {
            return p == 6 || p >= 0 && p < rows.size();
        }

        boolean isTo(int p) {
            return p == 7 || p >= 0 && p < rows.size();
        }

        boolean can(int from, int to) {
            List<Card> pile = pile(from);
            if (pile.isEmpty() || from == to) {
                return false;
            }
            Card c = pile.get(pile.size() - 1);
            if (to == 7) {
                return home[c.suit()] == c.rank() - 1;
            }
            List<Card> row = rows.get(to);
            if (row.isEmpty()) {
                return true;
            }
            Card on = row.get(row.size() - 1);
            boolean fits = switch (law) {
                case 0 -> red.contains(c.suit()) ^ red.contains(on.suit());
                case 1 -> true;
                default -> c.suit() == on.suit();
            };
            return fits && on.rank() - c.rank() == 1 && row.size() < 12;
        }

        Card move(int from, int to) {
            List<Card> pile = pile(from);
            Card c = pile.remove(pile.size() - 1);
            if (to == 7) {
                home[c.suit()]++;
                for (Field f : fields) {
                    if (f.suit == c.suit()) {
                        f.get(c.rank());
                    }
                }
            } else {
                rows.get(to).add(c);
            }
            return c;
        }

        List<Move> moves() {
            List<Move> all = new ArrayList<>();
            for (int from = 0; from <= 6; from++) {
                for (int to = 0; to <= 7; to++) {
                    if (isFrom(from) && isTo(to) && can(from, to)) {
                        all.add(new Move(from, to));
                    }
                }
            }
            return all;
        }

        /** The last move home there is, again and again: another order than the class has. */
        List<Card> run() {
            List<Card> came = new ArrayList<>();
            while (true) {
                Move home = null;
                for (Move m : moves()) {
                    home = m.to() == 7 ? m : home;
                }
                if (home == null) {
                    return came;
                }
                came.add(move(home.from(), 7));
            }
        }

        boolean canDeal() {
            return !stock.isEmpty() || redeals > 0 && !waste.isEmpty();
        }

        Card deal() {
            if (stock.isEmpty()) {
                stock.addAll(waste);
                waste.clear();
                redeals--;
                return null;
            }
            waste.add(stock.remove(0));
            return waste.get(waste.size() - 1);
        }

        void days(int many) {
            for (int i = 0; i < many; i++) {
                day++;
                for (Field f : fields) {
                    if (f.fate == 0) {
                        f.water -= f.dries;
                        if (f.water < 0) {
                            f.water = 0;
                            f.fate = 1;
                        }
                    }
                }
            }
        }

        void pack(int seed) {
            List<Card> all = new ArrayList<>();
            for (int suit = 0; suit < suits.size(); suit++) {
                for (int rank = 1; rank <= ranks; rank++) {
                    all.add(new Card(suit, rank));
                }
            }
            Draws draws = new Draws(seed);
            for (int k = all.size() - 1; k >= 1; k--) {
                java.util.Collections.swap(all, k, draws.by(k + 1));
            }
            home = new int[4];
            waste.clear();
            stock.clear();
            for (int row = 0; row < rows.size(); row++) {
                rows.get(row).clear();
                for (int i = 0; i < row + 1 && !all.isEmpty(); i++) {
                    rows.get(row).add(all.remove(0));
                }
            }
            stock.addAll(all);
        }

        int wets(int suit, int seed) {
            World w = copy();
            w.pack(seed);
            return ranksOf(w.run(), suit);
        }

        Card next(int suit) {
            Card c = new Card(suit, home[suit] + 1);
            return whereIs(c) < 0 ? null : c;
        }

        int whereIs(Card c) {
            for (int row = 0; row < rows.size(); row++) {
                if (rows.get(row).contains(c)) {
                    return row;
                }
            }
            return waste.contains(c) ? 6 : stock.contains(c) ? 8 : -1;
        }

        int over(Card c) {
            int at = whereIs(c);
            return at == 8 ? stock.indexOf(c) : pile(at).size() - 1 - pile(at).indexOf(c);
        }
    }

    static int ranksOf(List<Card> cards, int suit) {
        return cards.stream().filter(c -> c.suit() == suit).mapToInt(Card::rank).sum();
    }

    static final class Draws {
        long s;

        Draws(int seed) {
            s = seed;
        }

        int by(int n) {
            s = (s * 2971 + 10711) % 65536;
            return (int) (s / 8 % n);
        }
    }

    // ---- texts

    static final Set<String> WORDS = new HashSet<>(Arrays.asList(("ranks, suit, red, law, redeals, row, stock, field, "
            + "of, dries, water, high, day, move, deal, run, any, when, home, stuck, loop, end, stop").split(", ")));

    /** Tokens up to the first that is none; that one has the sort '!', the end 'e'. */
    static List<Token> tokens(String text) {
        List<Token> all = new ArrayList<>();
        java.util.regex.Matcher m = java.util.regex.Pattern.compile("([a-z]+)|([0-9]+)|([;<>=])|([ \n]+)").matcher(text);
        int at = 0;
        while (at < text.length()) {
            m.region(at, text.length());
            if (!m.lookingAt() || m.group(2) != null && m.group().length() > 4) {
                all.add(new Token('!', "", at));
                return all;
            }
            if (m.group(4) == null) {
                all.add(new Token(m.group(1) != null ? 'w' : m.group(2) != null ? 'n' : 's', m.group(), at));
            }
            at = m.end();
        }
        all.add(new Token('e', "", text.length()));
        return all;
    }

    static final class Text {
        final List<Token> tokens;
        int at;

        Text(String text) {
            tokens = tokens(text);
        }

        Token peek() {
            Token t = tokens.get(at);
            if (t.sort() == '!') {
                throw new Fault(1, t.place());
            }
            return t;
        }

        Token next() {
            Token t = peek();
            at++;
            return t;
        }

        boolean sees(String text) {
            return peek().text().equals(text) && peek().sort() != 'e';
        }

        boolean eats(String text) {
            boolean seen = sees(text);
            at += seen ? 1 : 0;
            return seen;
        }

        void must(String text) {
            Token t = next();
            if (!t.text().equals(text) || t.sort() == 'e') {
                throw new Fault(2, t.place());
            }
        }

        int number(int least, int most) {
            Token t = next();
            if (t.sort() != 'n') {
                throw new Fault(2, t.place());
            }
            if (t.number() < least || t.number() > most) {
                throw new Fault(4, t.place());
            }
            return t.number();
        }

        Token name() {
            Token t = next();
            if (t.sort() != 'w' || t.text().length() > 8 || WORDS.contains(t.text())) {
                throw new Fault(2, t.place());
            }
            return t;
        }
    }

    static World parseValley(String source) {
        Text text = new Text(source);
        World w = new World();
        Set<String> told = new HashSet<>();
        Set<String> names = new HashSet<>();
        Set<Card> cards = new HashSet<>();
        while (text.peek().sort() != 'e') {
            Token t = text.next();
            switch (t.text()) {
                case "ranks", "law", "redeals" -> {
                    if (t.text().equals("ranks") && (told.contains("row") || told.contains("stock"))) {
                        throw new Fault(2, t.place());
                    }
                    if (!told.add(t.text())) {
                        throw new Fault(5, t.place());
                    }
                    switch (t.text()) {
                        case "ranks" -> w.ranks = text.number(1, 6);
                        case "law" -> w.law = text.number(0, 2);
                        default -> w.redeals = text.number(0, 9);
                    }
                }
                case "suit" -> {
                    if (w.suits.size() == 4) {
                        throw new Fault(6, t.place());
                    }
                    Token name = text.name();
                    if (!names.add(name.text())) {
                        throw new Fault(3, name.place());
                    }
                    w.suits.add(name.text());
                    if (text.eats("red")) {
                        w.red.add(w.suits.size() - 1);
                    }
                }
                case "row" -> {
                    told.add("row");
                    if (w.rows.size() == 6) {
                        throw new Fault(6, t.place());
                    }
                    w.rows.add(new ArrayList<>());
                    parseCards(text, w, w.rows.get(w.rows.size() - 1), 12, cards);
                }
                case "stock" -> {
                    told.add("stock");
                    parseCards(text, w, w.stock, 999, cards);
                }
                case "field" -> {
                    if (w.fields.size() == 6) {
                        throw new Fault(6, t.place());
                    }
                    parseField(text, w, names);
                }
                default -> throw new Fault(2, t.place());
            }
            text.must(";");
        }
        return w;
    }

    private static void parseCards(Text text, World w, List<Card> pile, int most, Set<Card> cards) {
        while (!text.sees(";")) {
            int suit = parseSuit(text, w);
            if (pile.size() == most) {
                throw new Fault(6, text.tokens.get(text.at - 1).place());
            }
            Card c = new Card(suit, text.number(1, w.ranks));
            if (!cards.add(c)) {
                throw new Fault(5, text.tokens.get(text.at - 1).place());
            }
            pile.add(c);
        }
    }

    private static int parseSuit(Text text, World w) {
        Token name = text.name();
        if (!w.suits.contains(name.text())) {
            throw new Fault(3, name.place());
        }
        return w.suits.indexOf(name.text());
    }

    private static void parseField(Text text, World w, Set<String> names) {
        Field f = new Field();
        Token name = text.name();
        if (!names.add(name.text())) {
            throw new Fault(3, name.place());
        }
        f.name = name.text();
        text.must("of");
        f.suit = parseSuit(text, w);
        text.must("dries");
        f.dries = text.number(0, 20);
        if (text.eats("water")) {
            f.water = text.number(0, 99);
        }
        if (text.eats("high")) {
            f.high = text.number(1, 99);
        }
        w.fields.add(f);
    }

    /** Steps up to an end, or to the text's end where nothing is open. */
    static List<Step> parseSteps(Text text, World w, int deep, int[] count) {
        List<Step> steps = new ArrayList<>();
        while (true) {
            Token t = text.peek();
            if (t.sort() == 'e') {
                if (deep > 0) {
                    throw new Fault(2, t.place());
                }
                return steps;
            }
            if (t.text().equals("end") && deep > 0) {
                return steps;
            }
            text.next();
            if (!Set.of("day", "move", "deal", "run", "any", "when", "loop", "stop").contains(t.text())) {
                throw new Fault(2, t.place());
            }
            count[0]++;
            if (count[0] > 30) {
                throw new Fault(6, t.place());
            }
            steps.add(parseStep(text, w, deep, count, t));
        }
    }

    private static Step parseStep(Text text, World w, int deep, int[] count, Token t) {
        boolean opens = t.text().equals("when") || t.text().equals("loop");
        if (opens && deep == 3) {
            throw new Fault(7, t.place());
        }
        String test = "";
        String compare = "";
        int a = 0;
        int b = 0;
        switch (t.text()) {
            case "day" -> a = text.number(1, 20);
            case "loop" -> a = text.number(1, 99);
            case "move" -> {
                a = text.number(0, 6);
                b = text.number(0, 7);
            }
            case "when" -> {
                Token of = text.next();
                test = of.text();
                if (!Set.of("home", "water", "stuck").contains(test)) {
                    throw new Fault(2, of.place());
                }
                if (!test.equals("stuck")) {
                    Token name = text.name();
                    a = -1;
                    if (test.equals("home")) {
                        a = w.suits.indexOf(name.text());
                    } else {
                        for (int i = 0; i < w.fields.size(); i++) {
                            a = w.fields.get(i).name.equals(name.text()) ? i : a;
                        }
                    }
                    if (a < 0) {
                        throw new Fault(3, name.place());
                    }
                    Token sign = text.next();
                    compare = sign.text();
                    if (!Set.of("<", ">", "=").contains(compare)) {
                        throw new Fault(2, sign.place());
                    }
                    b = text.number(0, test.equals("home") ? 6 : 99);
                }
            }
            default -> { }
        }
        text.must(";");
        List<Step> body = null;
        if (opens) {
            body = parseSteps(text, w, deep + 1, count);
            text.must("end");
            text.must(";");
        }
        return new Step(t.text(), test, compare, a, b, body);
    }

    // ---- seasons

    static final class Lived {
        final World w;
        final Draws draws;
        int done;
        int missed;
        int days;
        int came;
        int made;
        int left;

        Lived(World w, int seed) {
            this.w = w;
            draws = new Draws(seed);
            try {
                steps(w.seasons);
            } catch (Halt halt) {
                // a stop, or 300 steps
            }
        }

        void steps(List<Step> all) {
            for (Step s : all) {
                if (done == 300) {
                    left = 1;
                    throw new Halt();
                }
                done++;
                step(s);
            }
        }

        void step(Step s) {
            switch (s.word()) {
                case "stop" -> throw new Halt();
                case "loop" -> {
                    for (int i = 0; i < s.a(); i++) {
                        steps(s.body());
                    }
                }
                case "when" -> {
                    if (holds(s)) {
                        steps(s.body());
                    }
                }
                default -> missed += does(s) ? 0 : 1;
            }
        }

        boolean holds(Step s) {
            if (s.test().equals("stuck")) {
                return w.moves().isEmpty();
            }
            int v = s.test().equals("home") ? w.home[s.a()] : w.fields.get(s.a()).water;
            return s.compare().equals("<") ? v < s.b() : s.compare().equals(">") ? v > s.b() : v == s.b();
        }

        boolean does(Step s) {
            switch (s.word()) {
                case "day" -> {
                    if (w.day + s.a() > 9999) {
                        return false;
                    }
                    w.days(s.a());
                    days += s.a();
                    return true;
                }
                case "deal" -> {
                    if (!w.canDeal()) {
                        return false;
                    }
                    w.deal();
                    return true;
                }
                case "run" -> {
                    int many = w.run().size();
                    came += many;
                    return many > 0;
                }
                case "move" -> {
                    return makes(new Move(s.a(), s.b()));
                }
                default -> {
                    List<Move> moves = w.moves();
                    return !moves.isEmpty() && makes(moves.get(draws.by(moves.size())));
                }
            }
        }

        boolean makes(Move m) {
            if (!w.isFrom(m.from()) || !w.isTo(m.to()) || !w.can(m.from(), m.to())) {
                return false;
            }
            w.move(m.from(), m.to());
            made++;
            came += m.to() == 7 ? 1 : 0;
            return true;
        }
    }

    // ---- plans

    static int gain(Card c, Move m, int set) {
        return m.to() != 7 || (set >> c.suit() & 1) == 0 ? 0 : c.rank();
    }

    static int most(World w, int set, int n) {
        int best = 0;
        for (Move m : n == 0 ? List.<Move>of() : w.moves()) {
            World then = w.copy();
            Card c = then.move(m.from(), m.to());
            best = Math.max(best, gain(c, m, set) + most(then, set, n - 1));
        }
        return best;
    }

    static int firstOf(World w, int set, int n) {
        int best = most(w, set, n);
        for (Move m : w.moves()) {
            World then = w.copy();
            Card c = then.move(m.from(), m.to());
            if (gain(c, m, set) + most(then, set, n - 1) == best) {
                return m.code();
            }
        }
        throw new Refused(8);
    }

    static int game(World w, int set, int n, int sign) {
        List<Move> moves = n == 0 ? List.of() : w.moves();
        if (moves.isEmpty()) {
            return 0;
        }
        int best = Integer.MIN_VALUE;
        for (Move m : moves) {
            World then = w.copy();
            Card c = then.move(m.from(), m.to());
            int value = gain(c, m, set) - gain(c, m, ~set) + game(then, set, n - 1, -sign);
            best = Math.max(best, sign * value);
        }
        return sign * best;
    }

    /** RANKS, and the two places or -1. */
    static int[] cheat(World w, int suit) {
        TreeMap<Integer, int[]> places = new TreeMap<>();
        for (int row = 0; row < w.rows.size(); row++) {
            for (int k = 0; k < w.rows.get(row).size(); k++) {
                places.put(100 * row + k, new int[] {row, k});
            }
        }
        int[] best = {ranksOf(w.copy().run(), suit), -1, -1};
        for (int p : places.keySet()) {
            for (int q : places.tailMap(p, false).keySet()) {
                World then = w.copy();
                int[] at = places.get(p);
                int[] to = places.get(q);
                Card c = then.rows.get(at[0]).get(at[1]);
                then.rows.get(at[0]).set(at[1], then.rows.get(to[0]).get(to[1]));
                then.rows.get(to[0]).set(to[1], c);
                int sum = ranksOf(then.run(), suit);
                if (sum > best[0]) {
                    best = new int[] {sum, p, q};
                }
            }
        }
        return best;
    }

    // ---- the calls

    int status;
    long top;
    long bottom = 1;
    final long[][] trays = new long[4][];
    final int[] sorts = new int[4];
    String tape = "";
    int faultKind = -1;
    int faultPlace = -1;
    World w = new World();
    final Deque<World> marks = new ArrayDeque<>();
    Lived lived;

    /** Answers a call; booleans as 1 or 0. */
    long call(String name, long[] a) {
        switch (name) {
            case "status": return status;
            case "top": return top;
            case "bottom": return bottom;
            case "fault": return a[0] == 0 ? faultKind : a[0] == 1 ? faultPlace : -1;
            case "feed": return feed(a);
            default:
        }
        try {
            long answer = ModelCalls.answer(this, name, a);
            status = 0;
            return answer;
        } catch (Refused refused) {
            status = refused.status;
            boolean truth = Set.of("tray", "write", "pour", "rule", "sow", "meanWets", "mean").contains(name);
            return truth ? 0 : -1;
        }
    }

    private long feed(long[] a) {
        if (tape.length() + 20 > 900) {
            return -1;
        }
        StringBuilder more = new StringBuilder(tape);
        for (long four : a) {
            for (int shift = 24; shift >= 0; shift -= 8) {
                more.append((char) ((int) four >>> shift & 255));
            }
        }
        tape = more.toString();
        return tape.length();
    }

    void fraction(long a, long b) {
        java.math.BigInteger gcd = java.math.BigInteger.valueOf(a).gcd(java.math.BigInteger.valueOf(b));
        top = a / gcd.longValue();
        bottom = b / gcd.longValue();
    }

    static void need(boolean holds, int status) {
        if (!holds) {
            throw new Refused(status);
        }
    }
}
