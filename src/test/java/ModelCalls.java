import java.util.List;

/** The calls of the model, one by one; what is refused is thrown. */
final class ModelCalls {
    private ModelCalls() { }

    static long answer(Model m, String name, long[] a) {
        Model.World w = m.w;
        switch (name) {
            case "tray", "write", "read", "pour", "copyRow": return trays(m, name, a);
            case "valley", "seasons": return text(m, name, a[0]);
            case "many": return many(w, a[0]);
            case "card": {
                row(w, a[0]);
                return at(w.rows.get((int) a[0]), a[1]);
            }
            case "length": {
                row(w, a[0]);
                return w.rows.get((int) a[0]).size();
            }
            case "topOf": {
                Model.need(a[0] == 6 || a[0] >= 0 && a[0] < w.rows.size(), 2);
                List<Model.Card> pile = w.pile((int) a[0]);
                return at(pile, pile.size() - 1);
            }
            case "stockAt": return at(w.stock, a[0]);
            case "homeOf": {
                suit(w, a[0]);
                return w.home[(int) a[0]];
            }
            case "field": {
                field(w, a[0]);
                Model.need(a[1] >= 0 && a[1] <= 4, 5);
                Model.Field f = w.fields.get((int) a[0]);
                return new int[] {f.suit, f.dries, f.water, f.high, f.fate}[(int) a[1]];
            }
            case "move", "canMove": {
                Model.need(w.isFrom((int) a[0]) && w.isTo((int) a[1]), 2);
                boolean can = w.can((int) a[0], (int) a[1]);
                if (name.equals("canMove")) {
                    return can ? 1 : 0;
                }
                Model.need(can, 9);
                return w.move((int) a[0], (int) a[1]).number();
            }
            case "deal": {
                Model.need(w.canDeal(), 9);
                Model.Card c = w.deal();
                return c == null ? -1 : c.number();
            }
            case "run": return w.run().size();
            case "day", "rain", "rule", "sow", "shuffle": return done(w, name, a);
            case "moves": return w.moves().size();
            case "moveAt": {
                Model.need(a[0] >= 0 && a[0] < w.moves().size(), 8);
                return w.moves().get((int) a[0]).code();
            }
            case "runs": return w.copy().run().size();
            case "runWater": {
                suit(w, a[0]);
                return Model.ranksOf(w.copy().run(), (int) a[0]);
            }
            case "next", "nextAt", "over", "easiest": return next(w, name, a);
            case "wilts", "thirstiest": return wilting(w, name, a);
            case "yields", "first", "game": {
                Model.need(a[0] >= 0 && a[0] < Math.pow(2, w.suits.size()) && a[1] >= 1 && a[1] <= 3, 5);
                int set = (int) a[0];
                int n = (int) a[1];
                return name.equals("yields") ? Model.most(w, set, n)
                        : name.equals("first") ? Model.firstOf(w, set, n) : Model.game(w, set, n, 1);
            }
            case "cheat": {
                suit(w, a[0]);
                return Model.cheat(w, (int) a[0])[0];
            }
            case "cheatAt": {
                suit(w, a[0]);
                Model.need(a[1] == 0 || a[1] == 1, 5);
                int place = Model.cheat(w, (int) a[0])[(int) a[1] + 1];
                Model.need(place >= 0, 8);
                return place;
            }
            case "wets", "meanWets", "bestSuit", "like", "likeFirst", "packTop": return packs(m, name, a);
            default: return seasons(m, name, a);
        }
    }

    private static void suit(Model.World w, long suit) {
        Model.need(suit >= 0 && suit < w.suits.size(), 2);
    }

    private static void row(Model.World w, long row) {
        Model.need(row >= 0 && row < w.rows.size(), 2);
    }

    private static void field(Model.World w, long field) {
        Model.need(field >= 0 && field < w.fields.size(), 2);
    }

    private static void tray(Model m, long tray) {
        Model.need(tray >= 0 && tray < 4, 1);
    }

    private static void seeds(long seed, long many, long most) {
        Model.need(seed >= 0 && many >= 1 && many <= most && seed + many - 1 <= 9999, 5);
    }

    private static long at(List<Model.Card> pile, long k) {
        Model.need(k >= 0 && k < pile.size(), 8);
        return pile.get((int) k).number();
    }

    private static long cut(int sort, long v) {
        int away = new int[] {56, 48, 32, 0}[sort];
        return v << away >> away;
    }

    private static long trays(Model m, String name, long[] a) {
        switch (name) {
            case "tray": {
                tray(m, a[0]);
                Model.need(a[1] >= 0 && a[1] < 4, 1);
                Model.need(a[2] <= 60, 5);
                Model.need(a[2] >= 0, 6);
                m.trays[(int) a[0]] = new long[(int) a[2]];
                m.sorts[(int) a[0]] = (int) a[1];
                return 1;
            }
            case "write", "read": {
                tray(m, a[0]);
                long[] row = m.trays[(int) a[0]];
                Model.need(row != null, 3);
                Model.need(a[1] >= 0 && a[1] < row.length, 4);
                if (name.equals("read")) {
                    return row[(int) a[1]];
                }
                row[(int) a[1]] = cut(m.sorts[(int) a[0]], a[2]);
                return 1;
            }
            case "copyRow": {
                tray(m, a[1]);
                row(m.w, a[0]);
                Model.need(m.trays[(int) a[1]] != null, 3);
                List<Model.Card> row = m.w.rows.get((int) a[0]);
                Model.need(row.size() <= m.trays[(int) a[1]].length, 4);
                for (int k = 0; k < row.size(); k++) {
                    m.trays[(int) a[1]][k] = row.get(k).number();
                }
                return row.size();
            }
            default: {
                tray(m, a[0]);
                tray(m, a[2]);
                long[] from = m.trays[(int) a[0]];
                long[] to = m.trays[(int) a[2]];
                Model.need(from != null && to != null, 3);
                Model.need(m.sorts[(int) a[0]] == m.sorts[(int) a[2]], 11);
                Model.need(a[4] >= 0, 6);
                Model.need(a[1] >= 0 && a[1] + a[4] <= from.length && a[3] >= 0 && a[3] + a[4] <= to.length, 4);
                long[] copy = from.clone();
                for (int k = 0; k < a[4]; k++) {
                    to[(int) a[3] + k] = copy[(int) a[1] + k];
                }
                return 1;
            }
        }
    }

    private static long text(Model m, String name, long n) {
        boolean seasons = name.equals("seasons");
        Model.need(n >= 0 && n <= m.tape.length() && (!seasons || n <= 300), 5);
        String text = m.tape.substring(0, (int) n);
        m.tape = "";
        m.faultKind = 0;
        m.faultPlace = -1;
        try {
            if (seasons) {
                int[] count = {0};
                m.w.seasons = Model.parseSteps(new Model.Text(text), m.w, 0, count);
                return count[0];
            }
            m.w = Model.parseValley(text);
            return m.w.fields.size();
        } catch (Model.Fault fault) {
            m.faultKind = fault.kind;
            m.faultPlace = fault.place;
            throw new Model.Refused(10);
        }
    }

    private static long many(Model.World w, long what) {
        Model.need(what >= 0 && what <= 13, 5);
        int home = 0;
        for (int h : w.home) {
            home += h;
        }
        int rows = w.rows.stream().mapToInt(List::size).sum();
        int red = w.red.stream().mapToInt(s -> 1 << s).sum();
        return new int[] {w.ranks, w.suits.size(), w.law, w.redeals, w.rows.size(), w.fields.size(), w.day,
            w.stock.size(), w.waste.size(), home, rows, set(w, 1), set(w, 2), red}[(int) what];
    }

    private static int set(Model.World w, int fate) {
        int set = 0;
        for (int i = 0; i < w.fields.size(); i++) {
            set += w.fields.get(i).fate == fate ? 1 << i : 0;
        }
        return set;
    }

    private static long done(Model.World w, String name, long[] a) {
        switch (name) {
            case "day": {
                Model.need(a[0] >= 1 && a[0] <= 99, 5);
                Model.need(w.day + a[0] <= 9999, 7);
                w.days((int) a[0]);
                return set(w, 0);
            }
            case "rain": {
                field(w, a[0]);
                Model.need(a[1] >= 1 && a[1] <= 99, 5);
                Model.Field f = w.fields.get((int) a[0]);
                Model.need(f.fate == 0, 9);
                f.get((int) a[1]);
                return f.water;
            }
            case "rule": {
                Model.need(a[0] >= 0 && a[0] <= 2, 5);
                w.law = (int) a[0];
                return 1;
            }
            case "sow": {
                field(w, a[0]);
                suit(w, a[1]);
                Model.Field f = w.fields.get((int) a[0]);
                f.suit = (int) a[1];
                f.water = 10;
                f.fate = 0;
                return 1;
            }
            default: {
                seeds(a[0], 1, 1);
                w.pack((int) a[0]);
                return w.suits.size() * w.ranks;
            }
        }
    }

    private static long next(Model.World w, String name, long[] a) {
        if (name.equals("easiest")) {
            int best = -1;
            for (int suit = w.suits.size() - 1; suit >= 0; suit--) {
                Model.Card c = w.next(suit);
                if (c != null && (best < 0 || w.over(c) <= w.over(w.next(best)))) {
                    best = suit;
                }
            }
            Model.need(best >= 0, 8);
            return best;
        }
        suit(w, a[0]);
        Model.Card c = w.next((int) a[0]);
        Model.need(c != null, 8);
        return name.equals("next") ? c.number() : name.equals("nextAt") ? w.whereIs(c) : w.over(c);
    }

    /** Counts days till a field is withered, 0 if it never is. */
    private static int daysOf(Model.World w, int field) {
        Model.Field f = w.fields.get(field).copy();
        if (f.fate != 0 || f.dries == 0) {
            return 0;
        }
        int days = 0;
        for (int water = f.water; water >= 0; water -= f.dries) {
            days++;
        }
        return days;
    }

    private static long wilting(Model.World w, String name, long[] a) {
        if (name.equals("wilts")) {
            field(w, a[0]);
            Model.need(daysOf(w, (int) a[0]) > 0, 8);
            return daysOf(w, (int) a[0]);
        }
        int best = -1;
        for (int i = w.fields.size() - 1; i >= 0; i--) {
            if (daysOf(w, i) > 0 && (best < 0 || daysOf(w, i) <= daysOf(w, best))) {
                best = i;
            }
        }
        Model.need(best >= 0, 8);
        return best;
    }

    private static long packs(Model m, String name, long[] a) {
        Model.World w = m.w;
        switch (name) {
            case "wets": {
                suit(w, a[0]);
                seeds(a[1], 1, 1);
                return w.wets((int) a[0], (int) a[1]);
            }
            case "packTop": {
                row(w, a[0]);
                seeds(a[1], 1, 1);
                Model.World then = w.copy();
                then.pack((int) a[1]);
                List<Model.Card> row = then.rows.get((int) a[0]);
                return at(row, row.size() - 1);
            }
            case "meanWets": {
                suit(w, a[0]);
                seeds(a[1], a[2], 50);
                m.fraction(sum(w, (int) a[0], a[1], a[2]), a[2]);
                return 1;
            }
            case "bestSuit": {
                seeds(a[0], a[1], 50);
                Model.need(!w.suits.isEmpty(), 8);
                int best = 0;
                for (int suit = 1; suit < w.suits.size(); suit++) {
                    best = sum(w, suit, a[0], a[1]) > sum(w, best, a[0], a[1]) ? suit : best;
                }
                return best;
            }
            default: return like(m, name, a);
        }
    }

    private static long sum(Model.World w, int suit, long seed, long many) {
        long sum = 0;
        for (long i = seed; i < seed + many; i++) {
            sum += w.wets(suit, (int) i);
        }
        return sum;
    }

    private static long like(Model m, String name, long[] a) {
        tray(m, a[0]);
        long[] told = m.trays[(int) a[0]];
        Model.need(told != null, 3);
        Model.need(told.length >= m.w.suits.size(), 4);
        seeds(a[1], a[2], 50);
        long first = -1;
        int found = 0;
        for (long seed = a[1]; seed < a[1] + a[2]; seed++) {
            boolean same = true;
            for (int suit = 0; suit < m.w.suits.size(); suit++) {
                same &= m.w.wets(suit, (int) seed) == told[suit];
            }
            first = same && first < 0 ? seed : first;
            found += same ? 1 : 0;
        }
        if (name.equals("like")) {
            return found;
        }
        Model.need(first >= 0, 8);
        return first;
    }

    private static long seasons(Model m, String name, long[] a) {
        switch (name) {
            case "live": {
                seeds(a[0], 1, 1);
                Model.need(m.w.seasons != null, 8);
                m.lived = new Model.Lived(m.w, (int) a[0]);
                return m.lived.done;
            }
            case "lived": {
                Model.need(a[0] >= 0 && a[0] <= 4, 5);
                Model.need(m.lived != null, 8);
                Model.Lived l = m.lived;
                return new int[] {l.missed, l.days, l.came, l.made, l.left}[(int) a[0]];
            }
            case "mean": {
                seeds(a[0], a[1], 20);
                Model.need(m.w.seasons != null, 8);
                long sum = 0;
                for (int i = 0; i < a[1]; i++) {
                    Model.World then = m.w.copy();
                    new Model.Lived(then, (int) a[0] + i);
                    sum += then.fields.stream().mapToInt(f -> f.water).sum();
                }
                m.fraction(sum, a[1]);
                return 1;
            }
            case "mark": {
                Model.need(m.marks.size() < 3, 7);
                m.marks.push(m.w.copy());
                return m.marks.size();
            }
            case "back": {
                Model.need(!m.marks.isEmpty(), 8);
                m.w = m.marks.pop();
                return m.marks.size();
            }
            default: throw new IllegalStateException(name);
        }
    }
}
