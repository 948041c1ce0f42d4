import java.util.Arrays;

/**
 * A dry valley whose water is dealt by a game of patience.
 *
 * <p>Every row that a call needs is made with the object and used again, so that no call makes anything.
 */
public final class WaterPatience {
    public static final int NONE = -1;

    private static final int TRAYS = 4;
    private static final int SORTS = 4;
    private static final int TRAY_MOST = 60;
    private static final int TAPE_MOST = 900;
    private static final int SEASONS_MOST = 300;

    private static final int SUITS_MOST = 4;
    private static final int RANKS_MOST = 6;
    private static final int RANKS_UNTOLD = 4;
    private static final int CARDS_MOST = SUITS_MOST * RANKS_MOST;
    private static final int ROWS_MOST = 6;
    private static final int ROW_TALL = 12;
    private static final int FIELDS_MOST = 6;
    private static final int WATER_MOST = 99;
    private static final int WATER_UNTOLD = 10;
    private static final int DAYS_MOST = 9999;
    private static final int SEED_MOST = 9999;
    private static final int MARKS_MOST = 3;
    private static final int TURNS_MOST = 3;

    /** Places; the rows are 0 to 5. */
    private static final int WASTE = 6;
    private static final int HOME = 7;
    private static final int STOCK = 8;
    /** The rows and the waste: the piles from which a card can be taken. */
    private static final int PILES = 7;
    /** No more moves than from each pile to each row or home. */
    private static final int MOVES_MOST = PILES * (ROWS_MOST + 1);

    /** What became of a field. */
    private static final int THRIVES = 0;
    private static final int WITHERED = 1;
    private static final int ROTTEN = 2;

    /** Words that are no names, in the order of the numbers below. */
    private static final String WORDS =
            "ranks suit red law redeals row stock field of dries water high day move deal run any when home stuck loop end stop ";
    private static final int WORDS_MANY = 23;
    private static final int W_RANKS = 0;
    private static final int W_SUIT = 1;
    private static final int W_RED = 2;
    private static final int W_LAW = 3;
    private static final int W_REDEALS = 4;
    private static final int W_ROW = 5;
    private static final int W_STOCK = 6;
    private static final int W_FIELD = 7;
    private static final int W_OF = 8;
    private static final int W_DRIES = 9;
    private static final int W_WATER = 10;
    private static final int W_HIGH = 11;
    private static final int W_DAY = 12;
    private static final int W_MOVE = 13;
    private static final int W_DEAL = 14;
    private static final int W_RUN = 15;
    private static final int W_ANY = 16;
    private static final int W_WHEN = 17;
    private static final int W_HOME = 18;
    private static final int W_STUCK = 19;
    private static final int W_LOOP = 20;
    private static final int W_END = 21;
    private static final int W_STOP = 22;

    /** Faults of a text. */
    private static final int F_TOKEN = 1;
    private static final int F_STAND = 2;
    private static final int F_NAME = 3;
    private static final int F_NUMBER = 4;
    private static final int F_AGAIN = 5;
    private static final int F_MANY = 6;
    private static final int F_DEEP = 7;

    /** Status of a call. */
    private static final int S_TRAY = 1;
    private static final int S_THING = 2;
    private static final int S_MISSING = 3;
    private static final int S_PLACE = 4;
    private static final int S_NUMBER = 5;
    private static final int S_BELOW = 6;
    private static final int S_MANY = 7;
    private static final int S_NOTHING = 8;
    private static final int S_CANNOT = 9;
    private static final int S_FAULT = 10;
    private static final int S_UNLIKE = 11;

    private int status;
    private long fractionTop;
    private long fractionBottom = 1;
    private final Tray[] trays = new Tray[TRAYS];
    private final byte[] tape = new byte[TAPE_MOST];
    private int taped;
    private final Reader reader = new Reader();
    private final ValleyText valleyText = new ValleyText();
    private final SeasonsText seasonsText = new SeasonsText();
    private final Valley land = new Valley();
    /** What is read, or lived on trial, before or without taking the place of the land. */
    private final Valley draft = new Valley();
    private final Valley[] marked = new Valley[MARKS_MOST];
    private int marks;
    private final Life life = new Life();
    private final Life trial = new Life();
    private boolean hasLived;
    private final Plans plans = new Plans();
    private final Packs packs = new Packs();
    private final int[] moveList = new int[MOVES_MOST];

    public WaterPatience() {
        for (int i = 0; i < TRAYS; i++) {
            trays[i] = new Tray();
        }
        for (int i = 0; i < MARKS_MOST; i++) {
            marked[i] = new Valley();
        }
    }

    public int status() {
        return status;
    }

    public long top() {
        return fractionTop;
    }

    public long bottom() {
        return fractionBottom;
    }

    // ---- TRAYS

    public boolean tray(int tray, int sort, int many) {
        if (!isTray(tray) || sort < 0 || sort >= SORTS) {
            return refuse(S_TRAY);
        }
        if (many > TRAY_MOST) {
            return refuse(S_NUMBER);
        }
        if (many < 0) {
            return refuse(S_BELOW);
        }
        trays[tray].lay(sort, many);
        return accept();
    }

    public boolean write(int tray, int place, long v) {
        int wrong = placeWrong(tray, place);
        if (wrong != 0) {
            return refuse(wrong);
        }
        trays[tray].put(place, v);
        return accept();
    }

    public long read(int tray, int place) {
        int wrong = placeWrong(tray, place);
        if (wrong != 0) {
            return fail(wrong);
        }
        status = 0;
        return trays[tray].at(place);
    }

    public boolean pour(int tray, int i, int to, int j, int many) {
        if (!isTray(tray) || !isTray(to)) {
            return refuse(S_TRAY);
        }
        Tray source = trays[tray];
        Tray target = trays[to];
        if (!source.there || !target.there) {
            return refuse(S_MISSING);
        }
        if (source.sort != target.sort) {
            return refuse(S_UNLIKE);
        }
        if (many < 0) {
            return refuse(S_BELOW);
        }
        if (!source.has(i, many) || !target.has(j, many)) {
            return refuse(S_PLACE);
        }
        System.arraycopy(source.numbers, i, target.numbers, j, many);
        return accept();
    }

    // ---- texts

    public int feed(int a, int b, int c, int d, int e) {
        if (taped + 20 > TAPE_MOST) {
            return NONE;
        }
        tapeInt(a);
        tapeInt(b);
        tapeInt(c);
        tapeInt(d);
        tapeInt(e);
        return taped;
    }

    public int valley(int n) {
        if (n < 0 || n > taped) {
            return fail(S_NUMBER);
        }
        taped = 0;
        reader.open(tape, n);
        if (!valleyText.take(reader, draft)) {
            return fail(S_FAULT);
        }
        land.copyFrom(draft);
        return give(land.fields);
    }

    public int seasons(int n) {
        if (n < 0 || n > taped || n > SEASONS_MOST) {
            return fail(S_NUMBER);
        }
        taped = 0;
        reader.open(tape, n);
        if (!seasonsText.take(reader, land, draft.plan)) {
            return fail(S_FAULT);
        }
        land.plan.copyFrom(draft.plan);
        return give(land.plan.steps);
    }

    public int fault(int what) {
        if (what == 0) {
            return reader.faultKind;
        }
        return what == 1 ? reader.faultPlace : NONE;
    }

    public int many(int what) {
        Table table = land.table;
        switch (what) {
            case 0: return give(table.ranks);
            case 1: return give(table.suits);
            case 2: return give(table.law);
            case 3: return give(table.redeals);
            case 4: return give(table.rows);
            case 5: return give(land.fields);
            case 6: return give(land.today);
            case 7: return give(table.stockMany());
            case 8: return give(table.tall[WASTE]);
            case 9: return give(table.homeMany());
            case 10: return give(table.rowsMany());
            case 11: return give(land.setOf(WITHERED));
            case 12: return give(land.setOf(ROTTEN));
            case 13: return give(table.red);
            default: return fail(S_NUMBER);
        }
    }

    public int card(int row, int k) {
        if (!isRow(row)) {
            return fail(S_THING);
        }
        return giveCard(land.table.cardAt(row, k));
    }

    public int length(int row) {
        if (!isRow(row)) {
            return fail(S_THING);
        }
        return give(land.table.tall[row]);
    }

    public int topOf(int place) {
        if (!isRow(place) && place != WASTE) {
            return fail(S_THING);
        }
        return giveCard(land.table.topCard(place));
    }

    public int stockAt(int k) {
        return giveCard(land.table.stockCard(k));
    }

    public int homeOf(int suit) {
        if (!isSuit(suit)) {
            return fail(S_THING);
        }
        return give(land.table.home[suit]);
    }

    public int field(int field, int what) {
        if (!isField(field)) {
            return fail(S_THING);
        }
        switch (what) {
            case 0: return give(land.sown[field]);
            case 1: return give(land.dries[field]);
            case 2: return give(land.water[field]);
            case 3: return give(land.high[field]);
            case 4: return give(land.fate[field]);
            default: return fail(S_NUMBER);
        }
    }

    public int copyRow(int row, int tray) {
        if (!isTray(tray)) {
            return fail(S_TRAY);
        }
        if (!isRow(row)) {
            return fail(S_THING);
        }
        Tray target = trays[tray];
        if (!target.there) {
            return fail(S_MISSING);
        }
        int many = land.table.tall[row];
        if (many > target.many) {
            return fail(S_PLACE);
        }
        for (int k = 0; k < many; k++) {
            target.put(k, land.table.cardAt(row, k));
        }
        return give(many);
    }

    // ---- what is done

    public int move(int from, int to) {
        if (!arePlaces(from, to)) {
            return fail(S_THING);
        }
        if (!land.table.allows(from, to)) {
            return fail(S_CANNOT);
        }
        return give(land.play(from, to));
    }

    public int deal() {
        if (!land.table.hasDeal()) {
            return fail(S_CANNOT);
        }
        return give(land.table.turnUp());
    }

    public int run() {
        return give(land.bringHome());
    }

    public int day(int days) {
        if (days < 1 || days > 99) {
            return fail(S_NUMBER);
        }
        if (!land.passDays(days)) {
            return fail(S_MANY);
        }
        return give(land.setOf(THRIVES));
    }

    public int rain(int field, int much) {
        if (!isField(field)) {
            return fail(S_THING);
        }
        if (much < 1 || much > 99) {
            return fail(S_NUMBER);
        }
        if (land.fate[field] != THRIVES) {
            return fail(S_CANNOT);
        }
        land.wet(field, much);
        return give(land.water[field]);
    }

    public boolean rule(int law) {
        if (law < 0 || law > 2) {
            return refuse(S_NUMBER);
        }
        land.table.law = law;
        return accept();
    }

    public boolean sow(int field, int suit) {
        if (!isField(field) || !isSuit(suit)) {
            return refuse(S_THING);
        }
        land.sown[field] = suit;
        land.water[field] = WATER_UNTOLD;
        land.fate[field] = THRIVES;
        return accept();
    }

    public int shuffle(int seed) {
        if (!isSeed(seed)) {
            return fail(S_NUMBER);
        }
        packs.dealOut(land.table, seed);
        return give(land.table.suits * land.table.ranks);
    }

    // ---- what can be

    public int canMove(int from, int to) {
        if (!arePlaces(from, to)) {
            return fail(S_THING);
        }
        return give(land.table.allows(from, to) ? 1 : 0);
    }

    public int moves() {
        return give(land.table.listMoves(moveList, 0));
    }

    public int moveAt(int k) {
        int many = land.table.listMoves(moveList, 0);
        if (k < 0 || k >= many || k >= moveList.length) {
            return fail(S_NOTHING);
        }
        return give(moveList[k]);
    }

    public int runs() {
        land.table.ripen();
        return give(land.table.riseMany());
    }

    public int runWater(int suit) {
        if (!isSuit(suit)) {
            return fail(S_THING);
        }
        land.table.ripen();
        return give(land.table.riseRanks(suit));
    }

    public int next(int suit) {
        int wrong = nextWrong(suit);
        return wrong != 0 ? fail(wrong) : give(land.table.nextCard(suit));
    }

    public int nextAt(int suit) {
        int wrong = nextWrong(suit);
        return wrong != 0 ? fail(wrong) : give(land.table.whereIs(land.table.nextCard(suit)));
    }

    public int over(int suit) {
        int wrong = nextWrong(suit);
        return wrong != 0 ? fail(wrong) : give(land.table.cardsOver(land.table.nextCard(suit)));
    }

    public int easiest() {
        Table table = land.table;
        int best = NONE;
        int fewest = 0;
        for (int suit = 0; suit < table.suits; suit++) {
            int card = table.nextCard(suit);
            if (card == NONE) {
                continue;
            }
            int cards = table.cardsOver(card);
            if (best == NONE || cards < fewest) {
                best = suit;
                fewest = cards;
            }
        }
        return best == NONE ? fail(S_NOTHING) : give(best);
    }

    public int wilts(int field) {
        if (!isField(field)) {
            return fail(S_THING);
        }
        int days = land.daysLeft(field);
        return days == NONE ? fail(S_NOTHING) : give(days);
    }

    public int thirstiest() {
        int best = NONE;
        int soonest = 0;
        for (int field = 0; field < land.fields; field++) {
            int days = land.daysLeft(field);
            if (days != NONE && (best == NONE || days < soonest)) {
                best = field;
                soonest = days;
            }
        }
        return best == NONE ? fail(S_NOTHING) : give(best);
    }

    // ---- plans

    public int yields(int suits, int n) {
        if (!isSet(suits) || !areTurns(n)) {
            return fail(S_NUMBER);
        }
        return give(Plans.reach(plans, land.table, suits, n));
    }

    public int first(int suits, int n) {
        if (!isSet(suits) || !areTurns(n)) {
            return fail(S_NUMBER);
        }
        Plans.reach(plans, land.table, suits, n);
        int code = plans.openingOf(n);
        return code == NONE ? fail(S_NOTHING) : give(code);
    }

    public int game(int suits, int n) {
        if (!isSet(suits) || !areTurns(n)) {
            return fail(S_NUMBER);
        }
        return give(Plans.duel(plans, land.table, suits, n, true));
    }

    public int cheat(int suit) {
        if (!isSuit(suit)) {
            return fail(S_THING);
        }
        return give(plans.bestSwap(land.table, suit));
    }

    public int cheatAt(int suit, int what) {
        if (!isSuit(suit)) {
            return fail(S_THING);
        }
        if (what != 0 && what != 1) {
            return fail(S_NUMBER);
        }
        plans.bestSwap(land.table, suit);
        int place = what == 0 ? plans.swapLesser : plans.swapOther;
        return place == NONE ? fail(S_NOTHING) : give(place);
    }

    // ---- packs

    public int wets(int suit, int seed) {
        if (!isSuit(suit)) {
            return fail(S_THING);
        }
        if (!isSeed(seed)) {
            return fail(S_NUMBER);
        }
        packs.tryOut(land.table, seed);
        return give(packs.wetsOf(suit));
    }

    public boolean meanWets(int suit, int seed, int many) {
        if (!isSuit(suit)) {
            return refuse(S_THING);
        }
        if (!areSeeds(seed, many, 50)) {
            return refuse(S_NUMBER);
        }
        packs.sumUp(land.table, seed, many);
        tellFraction(packs.sums[suit], many);
        return accept();
    }

    public int bestSuit(int seed, int many) {
        if (!areSeeds(seed, many, 50)) {
            return fail(S_NUMBER);
        }
        if (land.table.suits == 0) {
            return fail(S_NOTHING);
        }
        packs.sumUp(land.table, seed, many);
        int best = 0;
        for (int suit = 1; suit < land.table.suits; suit++) {
            if (packs.sums[suit] > packs.sums[best]) {
                best = suit;
            }
        }
        return give(best);
    }

    public int like(int tray, int seed, int many) {
        int wrong = likeWrong(tray, seed, many);
        if (wrong != 0) {
            return fail(wrong);
        }
        int found = 0;
        for (int i = 0; i < many; i++) {
            if (isLike(trays[tray], seed + i)) {
                found++;
            }
        }
        return give(found);
    }

    public int likeFirst(int tray, int seed, int many) {
        int wrong = likeWrong(tray, seed, many);
        if (wrong != 0) {
            return fail(wrong);
        }
        for (int i = 0; i < many; i++) {
            if (isLike(trays[tray], seed + i)) {
                return give(seed + i);
            }
        }
        return fail(S_NOTHING);
    }

    public int packTop(int row, int seed) {
        if (!isRow(row)) {
            return fail(S_THING);
        }
        if (!isSeed(seed)) {
            return fail(S_NUMBER);
        }
        packs.tryOut(land.table, seed);
        return giveCard(packs.table.topCard(row));
    }

    // ---- SEASONS

    public int live(int seed) {
        if (!isSeed(seed)) {
            return fail(S_NUMBER);
        }
        if (!land.plan.there) {
            return fail(S_NOTHING);
        }
        life.pass(land, seed);
        hasLived = true;
        return give(life.done);
    }

    public int lived(int what) {
        if (what < 0 || what > 4) {
            return fail(S_NUMBER);
        }
        if (!hasLived) {
            return fail(S_NOTHING);
        }
        switch (what) {
            case 0: return give(life.missed);
            case 1: return give(life.days);
            case 2: return give(life.came);
            case 3: return give(life.made);
            default: return give(life.cut ? 1 : 0);
        }
    }

    public boolean mean(int seed, int many) {
        if (!areSeeds(seed, many, 20)) {
            return refuse(S_NUMBER);
        }
        if (!land.plan.there) {
            return refuse(S_NOTHING);
        }
        long sum = 0;
        for (int i = 0; i < many; i++) {
            draft.copyFrom(land);
            trial.pass(draft, seed + i);
            sum += draft.allWater();
        }
        tellFraction(sum, many);
        return accept();
    }

    // ---- MARKS

    public int mark() {
        if (marks >= MARKS_MOST) {
            return fail(S_MANY);
        }
        marked[marks].copyFrom(land);
        marks++;
        return give(marks);
    }

    public int back() {
        if (marks <= 0) {
            return fail(S_NOTHING);
        }
        marks--;
        land.copyFrom(marked[marks]);
        return give(marks);
    }

    // ---- answers

    private int give(int answer) {
        status = 0;
        return answer;
    }

    private int giveCard(int card) {
        return card == NONE ? fail(S_NOTHING) : give(card);
    }

    private int fail(int why) {
        status = why;
        return NONE;
    }

    private boolean accept() {
        status = 0;
        return true;
    }

    private boolean refuse(int why) {
        status = why;
        return false;
    }

    private void tellFraction(long above, long below) {
        long divisor = commonDivisor(above, below);
        if (divisor < 1) {
            return;
        }
        fractionTop = above / divisor;
        fractionBottom = below / divisor;
    }

    private static long commonDivisor(long a, long b) {
        long x = a;
        long y = b;
        for (int i = 0; i < 100 && y != 0; i++) {
            long rest = x % y;
            x = y;
            y = rest;
        }
        return x;
    }

    // ---- what there is

    private static boolean isTray(int tray) {
        return tray >= 0 && tray < TRAYS;
    }

    private boolean isSuit(int suit) {
        return suit >= 0 && suit < land.table.suits;
    }

    private boolean isRow(int row) {
        return row >= 0 && row < land.table.rows;
    }

    private boolean isField(int field) {
        return field >= 0 && field < land.fields;
    }

    private boolean arePlaces(int from, int to) {
        return land.table.isSource(from) && land.table.isTarget(to);
    }

    private boolean isSet(int suits) {
        return suits >= 0 && suits < 1 << land.table.suits;
    }

    private static boolean areTurns(int n) {
        return n >= 1 && n <= TURNS_MOST;
    }

    private static boolean isSeed(int seed) {
        return seed >= 0 && seed <= SEED_MOST;
    }

    private static boolean areSeeds(int seed, int many, int most) {
        return isSeed(seed) && many >= 1 && many <= most && isSeed(seed + many - 1);
    }

    private int placeWrong(int tray, int place) {
        if (!isTray(tray)) {
            return S_TRAY;
        }
        if (!trays[tray].there) {
            return S_MISSING;
        }
        return trays[tray].has(place, 1) ? 0 : S_PLACE;
    }

    private int nextWrong(int suit) {
        if (!isSuit(suit)) {
            return S_THING;
        }
        return land.table.nextCard(suit) == NONE ? S_NOTHING : 0;
    }

    private int likeWrong(int tray, int seed, int many) {
        if (!isTray(tray)) {
            return S_TRAY;
        }
        if (!trays[tray].there) {
            return S_MISSING;
        }
        if (trays[tray].many < land.table.suits) {
            return S_PLACE;
        }
        return areSeeds(seed, many, 50) ? 0 : S_NUMBER;
    }

    private boolean isLike(Tray told, int seed) {
        packs.tryOut(land.table, seed);
        for (int suit = 0; suit < land.table.suits; suit++) {
            if (told.at(suit) != packs.wetsOf(suit)) {
                return false;
            }
        }
        return true;
    }

    private void tapeInt(int four) {
        for (int shift = 24; shift >= 0 && taped < tape.length; shift -= 8) {
            tape[taped] = (byte) (four >>> shift);
            taped++;
        }
    }

    private static int suitOf(int card) {
        return card / RANKS_MOST;
    }

    private static int rankOf(int card) {
        return card % RANKS_MOST + 1;
    }

    /** The ranks from 1 up to one, together. */
    private static int ranksUpTo(int rank) {
        return rank * (rank + 1) / 2;
    }

    /** What follows a number in the row of draws. */
    private static int stir(int s) {
        return (s * 2971 + 10711) % 65536;
    }

    /** A row of numbers of one sort, or none yet. */
    private static final class Tray {
        private final long[] numbers = new long[TRAY_MOST];
        private boolean there;
        private int sort;
        private int many;

        private void lay(int newSort, int newMany) {
            there = true;
            sort = newSort;
            many = newMany;
            Arrays.fill(numbers, 0L);
        }

        /** Whether so many numbers stand from a place on. */
        private boolean has(int from, int count) {
            return from >= 0 && count >= 0 && count <= many && from <= many - count;
        }

        private void put(int place, long v) {
            if (has(place, 1)) {
                numbers[place] = cut(v);
            }
        }

        private long at(int place) {
            return has(place, 1) ? numbers[place] : NONE;
        }

        private long cut(long v) {
            switch (sort) {
                case 0: return (byte) v;
                case 1: return (short) v;
                case 2: return (int) v;
                default: return v;
            }
        }
    }

    /** The cards: rows, waste, stock and home piles, with the law that binds them. */
    private static final class Table {
        private final int[] lying = new int[PILES * CARDS_MOST];
        private final int[] tall = new int[PILES];
        private final int[] stock = new int[CARDS_MOST];
        private int stockFrom;
        private int stockEnd;
        private final int[] home = new int[SUITS_MOST];
        private int ranks = RANKS_UNTOLD;
        private int suits;
        private int red;
        private int law;
        private int redeals;
        private int rows;
        /** What a run would leave of the piles, and make of the home piles. */
        private final int[] left = new int[PILES];
        private final int[] risen = new int[SUITS_MOST];

        private void clear() {
            sweep();
            ranks = RANKS_UNTOLD;
            suits = 0;
            red = 0;
            law = 0;
            redeals = 0;
            rows = 0;
        }

        /** Takes all cards off. */
        private void sweep() {
            Arrays.fill(tall, 0);
            Arrays.fill(home, 0);
            stockFrom = 0;
            stockEnd = 0;
        }

        private void copyFrom(Table other) {
            System.arraycopy(other.lying, 0, lying, 0, lying.length);
            System.arraycopy(other.tall, 0, tall, 0, tall.length);
            System.arraycopy(other.stock, 0, stock, 0, stock.length);
            System.arraycopy(other.home, 0, home, 0, home.length);
            stockFrom = other.stockFrom;
            stockEnd = other.stockEnd;
            copyShape(other);
            red = other.red;
            law = other.law;
            redeals = other.redeals;
        }

        /** What a pack needs to know. */
        private void copyShape(Table other) {
            ranks = other.ranks;
            suits = other.suits;
            rows = other.rows;
        }

        private boolean isSource(int place) {
            return place >= 0 && place < rows || place == WASTE;
        }

        private boolean isTarget(int place) {
            return place >= 0 && place < rows || place == HOME;
        }

        private int cardAt(int pile, int k) {
            if (pile < 0 || pile >= PILES || k < 0 || k >= tall[pile] || k >= CARDS_MOST) {
                return NONE;
            }
            return lying[pile * CARDS_MOST + k];
        }

        private int topCard(int pile) {
            if (pile < 0 || pile >= PILES || tall[pile] < 1 || tall[pile] > CARDS_MOST) {
                return NONE;
            }
            return lying[pile * CARDS_MOST + tall[pile] - 1];
        }

        private void lay(int pile, int card) {
            if (pile < 0 || pile >= PILES || tall[pile] < 0 || tall[pile] >= CARDS_MOST) {
                return;
            }
            lying[pile * CARDS_MOST + tall[pile]] = card;
            tall[pile]++;
        }

        private int lift(int pile) {
            if (pile < 0 || pile >= PILES || tall[pile] < 1 || tall[pile] > CARDS_MOST) {
                return NONE;
            }
            tall[pile]--;
            return lying[pile * CARDS_MOST + tall[pile]];
        }

        private void layInStock(int card) {
            if (stockEnd >= 0 && stockEnd < stock.length) {
                stock[stockEnd] = card;
                stockEnd++;
            }
        }

        private int stockMany() {
            return stockEnd - stockFrom;
        }

        private int stockCard(int k) {
            if (k < 0 || k >= stockMany()) {
                return NONE;
            }
            int at = stockFrom + k;
            return at >= 0 && at < stock.length ? stock[at] : NONE;
        }

        private int homeMany() {
            int many = 0;
            for (int suit = 0; suit < SUITS_MOST; suit++) {
                many += home[suit];
            }
            return many;
        }

        private int rowsMany() {
            int many = 0;
            for (int row = 0; row < rows && row < ROWS_MOST; row++) {
                many += tall[row];
            }
            return many;
        }

        private boolean isRed(int suit) {
            return (red >> suit & 1) == 1;
        }

        /** Whether the top card of a pile may go to a place; an empty pile has none. */
        private boolean allows(int from, int to) {
            int card = topCard(from);
            if (card == NONE || from == to || !isTarget(to)) {
                return false;
            }
            if (to != HOME) {
                return bears(to, card);
            }
            int suit = suitOf(card);
            return suit >= 0 && suit < SUITS_MOST && home[suit] + 1 == rankOf(card);
        }

        private boolean bears(int row, int card) {
            int below = topCard(row);
            if (below == NONE) {
                return true;
            }
            if (tall[row] >= ROW_TALL || rankOf(below) != rankOf(card) + 1) {
                return false;
            }
            if (law == 0) {
                return isRed(suitOf(card)) != isRed(suitOf(below));
            }
            return law == 1 || suitOf(card) == suitOf(below);
        }

        /** Moves the top card, which the caller knows may go there. */
        private int shift(int from, int to) {
            int card = lift(from);
            if (card == NONE) {
                return NONE;
            }
            if (to == HOME) {
                raise(suitOf(card), 1);
            } else {
                lay(to, card);
            }
            return card;
        }

        private void unshift(int card, int from, int to) {
            if (to == HOME) {
                raise(suitOf(card), -1);
            } else {
                lift(to);
            }
            lay(from, card);
        }

        /** A home pile grows, or loses what it got. */
        private void raise(int suit, int by) {
            if (suit >= 0 && suit < SUITS_MOST) {
                home[suit] += by;
            }
        }

        /** Writes all moves, in order, into a list from a place on: how many. */
        private int listMoves(int[] list, int start) {
            int found = 0;
            for (int from = 0; from < PILES; from++) {
                if (tall[from] == 0) {
                    continue;
                }
                for (int to = 0; to <= HOME; to++) {
                    int at = start + found;
                    if (allows(from, to) && at >= 0 && at < list.length) {
                        list[at] = 10 * from + to;
                        found++;
                    }
                }
            }
            return found;
        }

        private boolean hasDeal() {
            return stockMany() > 0 || redeals > 0 && tall[WASTE] > 0;
        }

        /** Deals a card, or makes the waste the stock again: the caller knows that one of them can be. */
        private int turnUp() {
            if (stockMany() > 0) {
                int card = stockCard(0);
                stockFrom++;
                lay(WASTE, card);
                return card;
            }
            stockFrom = 0;
            stockEnd = 0;
            for (int k = 0; k < tall[WASTE]; k++) {
                layInStock(cardAt(WASTE, k));
            }
            tall[WASTE] = 0;
            redeals--;
            return NONE;
        }

        /** Finds what a run would leave and raise; nothing is changed by that. */
        private void ripen() {
            System.arraycopy(tall, 0, left, 0, left.length);
            System.arraycopy(home, 0, risen, 0, risen.length);
            boolean rose = true;
            for (int round = 0; rose && round <= CARDS_MOST; round++) {
                rose = false;
                for (int pile = 0; pile < PILES; pile++) {
                    rose |= ripenPile(pile);
                }
            }
        }

        private boolean ripenPile(int pile) {
            boolean rose = false;
            for (int k = left[pile] - 1; k >= 0; k--) {
                int card = cardAt(pile, k);
                int suit = suitOf(card);
                if (card == NONE || suit >= SUITS_MOST || risen[suit] + 1 != rankOf(card)) {
                    return rose;
                }
                risen[suit]++;
                left[pile] = k;
                rose = true;
            }
            return rose;
        }

        /** Makes true what ripen() found. */
        private void settle() {
            System.arraycopy(left, 0, tall, 0, tall.length);
            System.arraycopy(risen, 0, home, 0, home.length);
        }

        private int riseMany() {
            int many = 0;
            for (int suit = 0; suit < SUITS_MOST; suit++) {
                many += risen[suit] - home[suit];
            }
            return many;
        }

        private int riseRanks(int suit) {
            if (suit < 0 || suit >= SUITS_MOST) {
                return 0;
            }
            return ranksUpTo(risen[suit]) - ranksUpTo(home[suit]);
        }

        private int nextCard(int suit) {
            if (suit < 0 || suit >= SUITS_MOST || home[suit] >= ranks) {
                return NONE;
            }
            int card = RANKS_MOST * suit + home[suit];
            return whereIs(card) == NONE ? NONE : card;
        }

        /** The row, waste or stock where a card lies. */
        private int whereIs(int card) {
            for (int pile = 0; pile < PILES; pile++) {
                if (placeIn(pile, card) != NONE) {
                    return pile;
                }
            }
            return placeInStock(card) != NONE ? STOCK : NONE;
        }

        private int cardsOver(int card) {
            int place = whereIs(card);
            if (place < 0 || place >= PILES) {
                return placeInStock(card);
            }
            return tall[place] - 1 - placeIn(place, card);
        }

        private int placeIn(int pile, int card) {
            for (int k = 0; k < tall[pile]; k++) {
                if (cardAt(pile, k) == card) {
                    return k;
                }
            }
            return NONE;
        }

        private int placeInStock(int card) {
            for (int k = 0; k < stockMany(); k++) {
                if (stockCard(k) == card) {
                    return k;
                }
            }
            return NONE;
        }

        /** Two cards change places; done twice it is undone. */
        private void swap(int pile, int k, int otherPile, int otherK) {
            int card = cardAt(pile, k);
            int other = cardAt(otherPile, otherK);
            if (card == NONE || other == NONE) {
                return;
            }
            lying[pile * CARDS_MOST + k] = other;
            lying[otherPile * CARDS_MOST + otherK] = card;
        }
    }

    /** The valley with all that became of it, and its seasons: what a mark keeps. */
    private static final class Valley {
        private final Table table = new Table();
        private final Seasons plan = new Seasons();
        private final long[] suitNames = new long[SUITS_MOST];
        private final long[] fieldNames = new long[FIELDS_MOST];
        private int fields;
        private int today;
        private final int[] sown = new int[FIELDS_MOST];
        private final int[] dries = new int[FIELDS_MOST];
        private final int[] water = new int[FIELDS_MOST];
        private final int[] high = new int[FIELDS_MOST];
        private final int[] fate = new int[FIELDS_MOST];

        private void clear() {
            table.clear();
            plan.clear();
            fields = 0;
            today = 0;
        }

        private void copyFrom(Valley other) {
            table.copyFrom(other.table);
            plan.copyFrom(other.plan);
            System.arraycopy(other.suitNames, 0, suitNames, 0, SUITS_MOST);
            System.arraycopy(other.fieldNames, 0, fieldNames, 0, FIELDS_MOST);
            fields = other.fields;
            today = other.today;
            System.arraycopy(other.sown, 0, sown, 0, FIELDS_MOST);
            System.arraycopy(other.dries, 0, dries, 0, FIELDS_MOST);
            System.arraycopy(other.water, 0, water, 0, FIELDS_MOST);
            System.arraycopy(other.high, 0, high, 0, FIELDS_MOST);
            System.arraycopy(other.fate, 0, fate, 0, FIELDS_MOST);
        }

        private int suitNamed(long name) {
            for (int suit = 0; suit < table.suits && suit < SUITS_MOST; suit++) {
                if (suitNames[suit] == name) {
                    return suit;
                }
            }
            return NONE;
        }

        private int fieldNamed(long name) {
            for (int field = 0; field < fields && field < FIELDS_MOST; field++) {
                if (fieldNames[field] == name) {
                    return field;
                }
            }
            return NONE;
        }

        private void addSuit(long name) {
            if (table.suits < SUITS_MOST) {
                suitNames[table.suits] = name;
                table.suits++;
            }
        }

        private void addField(long name, int suit, int drying) {
            if (fields < FIELDS_MOST) {
                fieldNames[fields] = name;
                sown[fields] = suit;
                dries[fields] = drying;
                water[fields] = WATER_UNTOLD;
                high[fields] = WATER_MOST;
                fate[fields] = THRIVES;
                fields++;
            }
        }

        /** Water comes to a field, if it thrives. */
        private void wet(int field, int much) {
            if (field < 0 || field >= fields || fate[field] != THRIVES) {
                return;
            }
            water[field] += much;
            if (water[field] > high[field]) {
                fate[field] = ROTTEN;
            }
        }

        private void wetSuit(int suit, int rank) {
            for (int field = 0; field < fields && field < FIELDS_MOST; field++) {
                if (sown[field] == suit) {
                    wet(field, rank);
                }
            }
        }

        /** Makes a move that can be: the card. */
        private int play(int from, int to) {
            int card = table.shift(from, to);
            if (to == HOME && card != NONE) {
                wetSuit(suitOf(card), rankOf(card));
            }
            return card;
        }

        /** A run: how many cards came home. */
        private int bringHome() {
            table.ripen();
            int many = table.riseMany();
            for (int suit = 0; suit < SUITS_MOST; suit++) {
                for (int rank = table.home[suit] + 1; rank <= table.risen[suit]; rank++) {
                    wetSuit(suit, rank);
                }
            }
            table.settle();
            return many;
        }

        /** Days pass, if there are still so many. */
        private boolean passDays(int days) {
            if (today + days > DAYS_MOST) {
                return false;
            }
            today += days;
            for (int field = 0; field < fields && field < FIELDS_MOST; field++) {
                if (fate[field] == THRIVES) {
                    dry(field, dries[field] * days);
                }
            }
            return true;
        }

        private void dry(int field, int much) {
            water[field] -= much;
            if (water[field] < 0) {
                water[field] = 0;
                fate[field] = WITHERED;
            }
        }

        /** In how many days a field withers, or NONE. */
        private int daysLeft(int field) {
            if (field < 0 || field >= fields || fate[field] != THRIVES || dries[field] <= 0) {
                return NONE;
            }
            return water[field] / dries[field] + 1;
        }

        private int setOf(int told) {
            int set = 0;
            for (int field = 0; field < fields && field < FIELDS_MOST; field++) {
                if (fate[field] == told) {
                    set |= 1 << field;
                }
            }
            return set;
        }

        private int allWater() {
            int sum = 0;
            for (int field = 0; field < fields && field < FIELDS_MOST; field++) {
                sum += water[field];
            }
            return sum;
        }
    }

    /** Takes a text apart into tokens, and keeps the fault that was found first. */
    private static final class Reader {
        private static final int END = 0;
        private static final int WORD = 1;
        private static final int NUMBER = 2;
        private static final int SIGN = 3;
        private static final int NAME_LONG = 8;
        private static final int DIGITS_MOST = 4;

        private final long[] words = new long[WORDS_MANY];
        private byte[] text = new byte[0];
        private int end;
        private int at;
        private int kind;
        private int place;
        /** A number's value, or a sign. */
        private int value;
        /** A word as a number, its letters as digits; true to it up to eight letters. */
        private long name;
        private int letters;
        /** Which of the words that are no names, or NONE. */
        private int word;
        private int faultKind = NONE;
        private int faultPlace = NONE;

        private Reader() {
            int many = 0;
            long key = 0;
            for (int i = 0; i < WORDS.length() && many < WORDS_MANY; i++) {
                char letter = WORDS.charAt(i);
                if (letter == ' ') {
                    words[many] = key;
                    many++;
                    key = 0;
                } else {
                    key = withLetter(key, letter);
                }
            }
        }

        private static long withLetter(long key, int letter) {
            return key * 27 + (letter - 'a' + 1);
        }

        private void open(byte[] newText, int length) {
            text = newText;
            end = Math.min(Math.max(length, 0), newText.length);
            at = 0;
            faultKind = 0;
            faultPlace = NONE;
        }

        /** Tells a fault at the token that was read last; false, so that it can be handed on. */
        private boolean blame(int fault) {
            faultKind = fault;
            faultPlace = place;
            return false;
        }

        private int byteHere() {
            return at >= 0 && at < end && at < text.length ? text[at] : NONE;
        }

        private static boolean isBlank(int b) {
            return b == 10 || b == 32;
        }

        private static boolean isLetter(int b) {
            return b >= 'a' && b <= 'z';
        }

        private static boolean isDigit(int b) {
            return b >= '0' && b <= '9';
        }

        /** Reads the next token; false if none begins so. */
        private boolean step() {
            while (at < end && isBlank(byteHere())) {
                at++;
            }
            place = at;
            word = NONE;
            int b = byteHere();
            if (at >= end) {
                kind = END;
                return true;
            }
            if (isLetter(b)) {
                readWord();
                return true;
            }
            if (isDigit(b)) {
                return readNumber();
            }
            if (b != ';' && b != '<' && b != '>' && b != '=') {
                return blame(F_TOKEN);
            }
            kind = SIGN;
            value = b;
            at++;
            return true;
        }

        private void readWord() {
            kind = WORD;
            name = 0;
            while (at < end && isLetter(byteHere())) {
                name = withLetter(name, byteHere());
                at++;
            }
            letters = at - place;
            for (int i = 0; i < WORDS_MANY && letters <= NAME_LONG; i++) {
                if (words[i] == name) {
                    word = i;
                }
            }
        }

        private boolean readNumber() {
            kind = NUMBER;
            value = 0;
            while (at < end && isDigit(byteHere())) {
                value = value * 10 + (byteHere() - '0');
                at++;
            }
            return at - place <= DIGITS_MOST || blame(F_TOKEN);
        }

        private boolean isEnd() {
            return kind == END;
        }

        private boolean isSign(int sign) {
            return kind == SIGN && value == sign;
        }

        private boolean isName() {
            return kind == WORD && word == NONE && letters <= NAME_LONG;
        }

        private boolean wantSign(int sign) {
            if (!step()) {
                return false;
            }
            return isSign(sign) || blame(F_STAND);
        }

        private boolean wantCompare() {
            if (!step()) {
                return false;
            }
            return isSign('<') || isSign('>') || isSign('=') || blame(F_STAND);
        }

        private boolean wantWord(int told) {
            if (!step()) {
                return false;
            }
            return word == told || blame(F_STAND);
        }

        private boolean wantName() {
            if (!step()) {
                return false;
            }
            return isName() || blame(F_STAND);
        }

        private boolean wantNumber(int least, int most) {
            if (!step()) {
                return false;
            }
            if (kind != NUMBER) {
                return blame(F_STAND);
            }
            return value >= least && value <= most || blame(F_NUMBER);
        }
    }

    /** Reads a valley's text. */
    private static final class ValleyText {
        private boolean ranksTold;
        private boolean lawTold;
        private boolean redealsTold;
        private boolean cardsTold;
        /** The cards that are there, as a set. */
        private int dealt;

        /** Makes a valley of a text; without a fault it is whole. */
        private boolean take(Reader in, Valley out) {
            out.clear();
            ranksTold = false;
            lawTold = false;
            redealsTold = false;
            cardsTold = false;
            dealt = 0;
            for (int parts = 0; parts <= TAPE_MOST; parts++) {
                if (!in.step()) {
                    return false;
                }
                if (in.isEnd()) {
                    return true;
                }
                boolean good;
                switch (in.word) {
                    case W_RANKS: good = takeRanks(in, out.table); break;
                    case W_SUIT: good = takeSuit(in, out); break;
                    case W_LAW: good = takeLaw(in, out.table); break;
                    case W_REDEALS: good = takeRedeals(in, out.table); break;
                    case W_ROW: good = addRow(in, out.table) && takeCards(in, out, out.table.rows - 1); break;
                    case W_STOCK: good = takeCards(in, out, STOCK); break;
                    case W_FIELD: good = takeField(in, out); break;
                    default: good = in.blame(F_STAND); break;
                }
                if (!good) {
                    return false;
                }
            }
            return in.blame(F_STAND);
        }

        private boolean takeRanks(Reader in, Table table) {
            if (cardsTold) {
                return in.blame(F_STAND);
            }
            if (ranksTold) {
                return in.blame(F_AGAIN);
            }
            ranksTold = true;
            if (!in.wantNumber(1, RANKS_MOST)) {
                return false;
            }
            table.ranks = in.value;
            return in.wantSign(';');
        }

        private boolean takeLaw(Reader in, Table table) {
            if (lawTold) {
                return in.blame(F_AGAIN);
            }
            lawTold = true;
            if (!in.wantNumber(0, 2)) {
                return false;
            }
            table.law = in.value;
            return in.wantSign(';');
        }

        private boolean takeRedeals(Reader in, Table table) {
            if (redealsTold) {
                return in.blame(F_AGAIN);
            }
            redealsTold = true;
            if (!in.wantNumber(0, 9)) {
                return false;
            }
            table.redeals = in.value;
            return in.wantSign(';');
        }

        private boolean takeSuit(Reader in, Valley out) {
            if (out.table.suits >= SUITS_MOST) {
                return in.blame(F_MANY);
            }
            if (!wantNewName(in, out)) {
                return false;
            }
            int suit = out.table.suits;
            out.addSuit(in.name);
            if (!in.step()) {
                return false;
            }
            if (in.word == W_RED) {
                out.table.red |= 1 << suit;
                return in.wantSign(';');
            }
            return in.isSign(';') || in.blame(F_STAND);
        }

        private boolean wantNewName(Reader in, Valley out) {
            if (!in.wantName()) {
                return false;
            }
            boolean taken = out.suitNamed(in.name) != NONE || out.fieldNamed(in.name) != NONE;
            return !taken || in.blame(F_NAME);
        }

        private static boolean addRow(Reader in, Table table) {
            if (table.rows >= ROWS_MOST) {
                return in.blame(F_MANY);
            }
            table.rows++;
            return true;
        }

        /** Reads the cards of a row or of the stock. */
        private boolean takeCards(Reader in, Valley out, int place) {
            cardsTold = true;
            for (int many = 0; many <= TAPE_MOST; many++) {
                if (!in.step()) {
                    return false;
                }
                if (in.isSign(';')) {
                    return true;
                }
                if (!takeCard(in, out, place)) {
                    return false;
                }
            }
            return in.blame(F_STAND);
        }

        private boolean takeCard(Reader in, Valley out, int place) {
            if (!in.isName()) {
                return in.blame(F_STAND);
            }
            int suit = out.suitNamed(in.name);
            if (suit == NONE) {
                return in.blame(F_NAME);
            }
            boolean inRow = place >= 0 && place < ROWS_MOST;
            if (inRow && out.table.tall[place] >= ROW_TALL) {
                return in.blame(F_MANY);
            }
            if (!in.wantNumber(1, out.table.ranks)) {
                return false;
            }
            int card = RANKS_MOST * suit + in.value - 1;
            if ((dealt >> card & 1) == 1) {
                return in.blame(F_AGAIN);
            }
            dealt |= 1 << card;
            if (inRow) {
                out.table.lay(place, card);
            } else {
                out.table.layInStock(card);
            }
            return true;
        }

        private boolean takeField(Reader in, Valley out) {
            if (out.fields >= FIELDS_MOST) {
                return in.blame(F_MANY);
            }
            if (!wantNewName(in, out)) {
                return false;
            }
            long name = in.name;
            if (!in.wantWord(W_OF) || !in.wantName()) {
                return false;
            }
            int suit = out.suitNamed(in.name);
            if (suit == NONE) {
                return in.blame(F_NAME);
            }
            if (!in.wantWord(W_DRIES) || !in.wantNumber(0, 20)) {
                return false;
            }
            int field = out.fields;
            out.addField(name, suit, in.value);
            return takeWater(in, out, field);
        }

        private boolean takeWater(Reader in, Valley out, int field) {
            if (!in.step()) {
                return false;
            }
            if (in.word == W_WATER) {
                if (!in.wantNumber(0, WATER_MOST)) {
                    return false;
                }
                out.water[field] = in.value;
                if (!in.step()) {
                    return false;
                }
            }
            if (in.word == W_HIGH) {
                if (!in.wantNumber(1, WATER_MOST)) {
                    return false;
                }
                out.high[field] = in.value;
                return in.wantSign(';');
            }
            return in.isSign(';') || in.blame(F_STAND);
        }
    }

    /** Steps as they are told, with the ends of whens and loops among them. */
    private static final class Seasons {
        private static final int STEPS_TOLD = 30;
        /** Each when and loop has an end. */
        private static final int LINES = 2 * STEPS_TOLD;
        /** What a line has: its word, what it is about, and where its end or beginning stands. */
        private static final int WORD = 0;
        private static final int A = 1;
        private static final int B = 2;
        private static final int C = 3;
        private static final int D = 4;
        private static final int PARTNER = 5;
        private static final int PARTS = 6;

        private final int[] code = new int[LINES * PARTS];
        private int lines;
        private int steps;
        /** Seasons without steps are there, too, once such a text was taken. */
        private boolean there;

        private void clear() {
            lines = 0;
            steps = 0;
            there = false;
        }

        private void copyFrom(Seasons other) {
            System.arraycopy(other.code, 0, code, 0, code.length);
            lines = other.lines;
            steps = other.steps;
            there = other.there;
        }

        private int part(int line, int what) {
            if (line < 0 || line >= LINES || what < 0 || what >= PARTS) {
                return NONE;
            }
            return code[line * PARTS + what];
        }

        private void setPart(int line, int what, int v) {
            if (line >= 0 && line < LINES && what >= 0 && what < PARTS) {
                code[line * PARTS + what] = v;
            }
        }

        private int addLine(int word) {
            int line = lines;
            if (line < LINES) {
                lines++;
                setPart(line, WORD, word);
            }
            return line;
        }
    }

    /** Reads a text of seasons. */
    private static final class SeasonsText {
        private static final int DEEP_MOST = 3;

        /** The whens and loops that are not ended yet. */
        private final int[] open = new int[DEEP_MOST];
        private int deep;

        private boolean take(Reader in, Valley names, Seasons out) {
            out.clear();
            out.there = true;
            deep = 0;
            for (int parts = 0; parts <= SEASONS_MOST; parts++) {
                if (!in.step()) {
                    return false;
                }
                if (in.isEnd()) {
                    return deep == 0 || in.blame(F_STAND);
                }
                boolean good = in.word == W_END ? takeEnd(in, out) : takeStep(in, names, out);
                if (!good) {
                    return false;
                }
            }
            return in.blame(F_STAND);
        }

        private boolean takeEnd(Reader in, Seasons out) {
            if (deep <= 0 || deep > DEEP_MOST) {
                return in.blame(F_STAND);
            }
            deep--;
            int line = out.addLine(W_END);
            out.setPart(line, Seasons.PARTNER, open[deep]);
            out.setPart(open[deep], Seasons.PARTNER, line);
            return in.wantSign(';');
        }

        private boolean takeStep(Reader in, Valley names, Seasons out) {
            int word = in.word;
            if (!isStep(word)) {
                return in.blame(F_STAND);
            }
            if (out.steps >= Seasons.STEPS_TOLD) {
                return in.blame(F_MANY);
            }
            boolean opens = word == W_WHEN || word == W_LOOP;
            if (opens && deep >= DEEP_MOST) {
                return in.blame(F_DEEP);
            }
            out.steps++;
            int line = out.addLine(word);
            if (opens && deep >= 0) {
                open[deep] = line;
                deep++;
            }
            boolean good = true;
            switch (word) {
                case W_DAY: good = takeNumber(in, out, line, 20); break;
                case W_LOOP: good = takeNumber(in, out, line, 99); break;
                case W_MOVE: good = takePlaces(in, out, line); break;
                case W_WHEN: good = takeTest(in, names, out, line); break;
                default: break;
            }
            return good && in.wantSign(';');
        }

        private static boolean isStep(int word) {
            return word >= W_DAY && word <= W_WHEN || word == W_LOOP || word == W_STOP;
        }

        private static boolean takeNumber(Reader in, Seasons out, int line, int most) {
            if (!in.wantNumber(1, most)) {
                return false;
            }
            out.setPart(line, Seasons.A, in.value);
            return true;
        }

        private static boolean takePlaces(Reader in, Seasons out, int line) {
            if (!in.wantNumber(0, WASTE)) {
                return false;
            }
            out.setPart(line, Seasons.A, in.value);
            if (!in.wantNumber(0, HOME)) {
                return false;
            }
            out.setPart(line, Seasons.B, in.value);
            return true;
        }

        private static boolean takeTest(Reader in, Valley names, Seasons out, int line) {
            if (!in.step()) {
                return false;
            }
            int test = in.word;
            if (test != W_HOME && test != W_WATER && test != W_STUCK) {
                return in.blame(F_STAND);
            }
            out.setPart(line, Seasons.A, test);
            if (test == W_STUCK) {
                return true;
            }
            if (!in.wantName()) {
                return false;
            }
            int thing = test == W_HOME ? names.suitNamed(in.name) : names.fieldNamed(in.name);
            if (thing == NONE) {
                return in.blame(F_NAME);
            }
            out.setPart(line, Seasons.B, thing);
            if (!in.wantCompare()) {
                return false;
            }
            out.setPart(line, Seasons.C, in.value);
            if (!in.wantNumber(0, test == W_HOME ? RANKS_MOST : WATER_MOST)) {
                return false;
            }
            out.setPart(line, Seasons.D, in.value);
            return true;
        }
    }

    /** One passing of the seasons over a valley, and what is told of it. */
    private static final class Life {
        private static final int STEPS_DONE = 300;
        /** An empty loop goes 99 times round within one step: far above 300 times that. */
        private static final int TICKS = 1000000;

        private final int[] rounds = new int[Seasons.LINES];
        private final int[] moveList = new int[MOVES_MOST];
        private int drawn;
        private int done;
        private int missed;
        private int days;
        private int came;
        private int made;
        private boolean cut;

        private void pass(Valley valley, int seed) {
            drawn = seed;
            done = 0;
            missed = 0;
            days = 0;
            came = 0;
            made = 0;
            cut = false;
            Seasons plan = valley.plan;
            int line = 0;
            for (int tick = 0; tick < TICKS && line >= 0 && line < plan.lines; tick++) {
                if (plan.part(line, Seasons.WORD) == W_END) {
                    line = afterEnd(plan, line);
                } else if (done < STEPS_DONE) {
                    done++;
                    line = afterStep(valley, line);
                } else {
                    cut = true;
                    return;
                }
            }
        }

        /** Back to a loop's first line as long as rounds are left, else on. */
        private int afterEnd(Seasons plan, int line) {
            int start = plan.part(line, Seasons.PARTNER);
            if (plan.part(start, Seasons.WORD) != W_LOOP || start < 0 || start >= rounds.length) {
                return line + 1;
            }
            rounds[start]--;
            return rounds[start] > 0 ? start + 1 : line + 1;
        }

        /** Does a step: the line that comes then. */
        private int afterStep(Valley valley, int line) {
            Seasons plan = valley.plan;
            int a = plan.part(line, Seasons.A);
            boolean good = true;
            switch (plan.part(line, Seasons.WORD)) {
                case W_WHEN:
                    return holds(valley, line) ? line + 1 : plan.part(line, Seasons.PARTNER) + 1;
                case W_STOP: return plan.lines;
                case W_LOOP: startRounds(line, a); break;
                case W_DAY: good = letPass(valley, a); break;
                case W_MOVE: good = makeMove(valley, a, plan.part(line, Seasons.B)); break;
                case W_DEAL: good = turnCard(valley.table); break;
                case W_RUN: good = makeRun(valley); break;
                default: good = makeAny(valley); break;
            }
            if (!good) {
                missed++;
            }
            return line + 1;
        }

        private void startRounds(int line, int many) {
            if (line >= 0 && line < rounds.length) {
                rounds[line] = many;
            }
        }

        private boolean letPass(Valley valley, int many) {
            if (!valley.passDays(many)) {
                return false;
            }
            days += many;
            return true;
        }

        private boolean makeMove(Valley valley, int from, int to) {
            if (!valley.table.isSource(from) || !valley.table.allows(from, to)) {
                return false;
            }
            carry(valley, from, to);
            return true;
        }

        private void carry(Valley valley, int from, int to) {
            valley.play(from, to);
            made++;
            if (to == HOME) {
                came++;
            }
        }

        private static boolean turnCard(Table table) {
            if (!table.hasDeal()) {
                return false;
            }
            table.turnUp();
            return true;
        }

        private boolean makeRun(Valley valley) {
            int many = valley.bringHome();
            came += many;
            return many > 0;
        }

        private boolean makeAny(Valley valley) {
            int many = valley.table.listMoves(moveList, 0);
            if (many < 1) {
                return false;
            }
            drawn = stir(drawn);
            int pick = drawn / 8 % many;
            if (pick < 0 || pick >= moveList.length) {
                return false;
            }
            carry(valley, moveList[pick] / 10, moveList[pick] % 10);
            return true;
        }

        private boolean holds(Valley valley, int line) {
            Seasons plan = valley.plan;
            int thing = plan.part(line, Seasons.B);
            switch (plan.part(line, Seasons.A)) {
                case W_HOME:
                    return thing >= 0 && thing < SUITS_MOST && compares(valley.table.home[thing], plan, line);
                case W_WATER:
                    return thing >= 0 && thing < FIELDS_MOST && compares(valley.water[thing], plan, line);
                default:
                    return valley.table.listMoves(moveList, 0) == 0;
            }
        }

        private static boolean compares(int v, Seasons plan, int line) {
            int number = plan.part(line, Seasons.D);
            switch (plan.part(line, Seasons.C)) {
                case '<': return v < number;
                case '>': return v > number;
                default: return v == number;
            }
        }
    }

    /** What a few moves, or a change of two cards, can bring. */
    private static final class Plans {
        /** The moves of each turn that is looked at, by how many turns are left. */
        private final int[] moveList = new int[(TURNS_MOST + 1) * MOVES_MOST];
        /** The first of the best moves, by how many turns are left. */
        private final int[] opening = new int[TURNS_MOST + 1];
        private int swapLesser = NONE;
        private int swapOther = NONE;

        /** The most ranks of a set of suits that so many moves bring home. */
        private static int reach(Plans plans, Table table, int set, int turns) {
            if (turns < 1 || turns > TURNS_MOST) {
                return 0;
            }
            int many = table.listMoves(plans.moveList, turns * MOVES_MOST);
            int best = 0;
            plans.opening[turns] = NONE;
            for (int i = 0; i < many && i < MOVES_MOST; i++) {
                int code = plans.moveList[turns * MOVES_MOST + i];
                int card = table.shift(code / 10, code % 10);
                int sum = Math.max(0, gain(card, code % 10, set)) + reach(plans, table, set, turns - 1);
                table.unshift(card, code / 10, code % 10);
                if (plans.opening[turns] == NONE || sum > best) {
                    plans.opening[turns] = code;
                    best = sum;
                }
            }
            return best;
        }

        /** The move that reach() found for so many turns. */
        private int openingOf(int turns) {
            return turns < 1 || turns > TURNS_MOST ? NONE : opening[turns];
        }

        /** What a card's move is worth to the bank that has the set; less than 0 if to the other one. */
        private static int gain(int card, int to, int set) {
            if (card == NONE || to != HOME) {
                return 0;
            }
            return (set >> suitOf(card) & 1) == 1 ? rankOf(card) : -rankOf(card);
        }

        /** What the first bank gains by best play of both. */
        private static int duel(Plans plans, Table table, int set, int turns, boolean firsts) {
            if (turns < 1 || turns > TURNS_MOST) {
                return 0;
            }
            int many = table.listMoves(plans.moveList, turns * MOVES_MOST);
            int best = 0;
            for (int i = 0; i < many && i < MOVES_MOST; i++) {
                int code = plans.moveList[turns * MOVES_MOST + i];
                int card = table.shift(code / 10, code % 10);
                int sum = gain(card, code % 10, set) + duel(plans, table, set, turns - 1, !firsts);
                table.unshift(card, code / 10, code % 10);
                if (i == 0 || (firsts ? sum > best : sum < best)) {
                    best = sum;
                }
            }
            return best;
        }

        /** The most ranks of a suit that a run brings home if two cards of rows may change places. */
        private int bestSwap(Table table, int suit) {
            table.ripen();
            int best = table.riseRanks(suit);
            swapLesser = NONE;
            swapOther = NONE;
            for (int row = 0; row < table.rows && row < ROWS_MOST; row++) {
                for (int k = 0; k < table.tall[row]; k++) {
                    best = swapsOf(table, suit, row, k, best);
                }
            }
            return best;
        }

        /** Tries one card with all behind it: what is best now. */
        private int swapsOf(Table table, int suit, int row, int k, int bestYet) {
            int best = bestYet;
            for (int other = row; other < table.rows && other < ROWS_MOST; other++) {
                for (int j = other == row ? k + 1 : 0; j < table.tall[other]; j++) {
                    table.swap(row, k, other, j);
                    table.ripen();
                    table.swap(row, k, other, j);
                    int sum = table.riseRanks(suit);
                    if (sum > best) {
                        best = sum;
                        swapLesser = 100 * row + k;
                        swapOther = 100 * other + j;
                    }
                }
            }
            return best;
        }
    }

    /** Packs that are mixed by seeds. */
    private static final class Packs {
        private final Table table = new Table();
        private final int[] deck = new int[CARDS_MOST];
        private final int[] sums = new int[SUITS_MOST];

        /** Deals all cards of a table anew. */
        private void dealOut(Table out, int seed) {
            int many = mix(out, seed);
            out.sweep();
            int at = 0;
            for (int row = 0; row < out.rows && row < ROWS_MOST; row++) {
                for (int k = 0; k <= row && at < many && at < CARDS_MOST; k++) {
                    out.lay(row, deck[at]);
                    at++;
                }
            }
            for (int k = at; k < many && k < CARDS_MOST; k++) {
                out.layInStock(deck[k]);
            }
        }

        private int mix(Table shape, int seed) {
            int many = 0;
            for (int suit = 0; suit < shape.suits; suit++) {
                for (int rank = 1; rank <= shape.ranks && many < CARDS_MOST; rank++) {
                    deck[many] = RANKS_MOST * suit + rank - 1;
                    many++;
                }
            }
            int drawn = seed;
            for (int k = many - 1; k >= 1; k--) {
                drawn = stir(drawn);
                int pick = drawn / 8 % (k + 1);
                if (pick >= 0 && pick < CARDS_MOST) {
                    int card = deck[k];
                    deck[k] = deck[pick];
                    deck[pick] = card;
                }
            }
            return many;
        }

        /** Deals a pack apart and looks at its run. */
        private void tryOut(Table shape, int seed) {
            table.copyShape(shape);
            dealOut(table, seed);
            table.ripen();
        }

        private int wetsOf(int suit) {
            return table.riseRanks(suit);
        }

        private void sumUp(Table shape, int seed, int many) {
            Arrays.fill(sums, 0);
            for (int i = 0; i < many; i++) {
                tryOut(shape, seed + i);
                for (int suit = 0; suit < SUITS_MOST; suit++) {
                    sums[suit] += wetsOf(suit);
                }
            }
        }
    }
}
