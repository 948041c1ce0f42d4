import java.io.IOException;
import java.nio.file.Files;
import java.nio.file.Path;
import java.util.ArrayList;
import java.util.Arrays;
import java.util.Collections;
import java.util.List;
import java.util.Random;
import java.util.TreeSet;
import java.util.regex.Matcher;
import java.util.regex.Pattern;

/** Sentences of the document that the third reading found without a test of their own, in the document's order. */
public final class ReadingTest {
    private static final Edge edge = new Edge();

    public static void main(String[] args) throws IOException {
        partsInAnyOrder();
        namesThatAreTaken();
        numbersThatCannotBe();
        places();
        nextOfItsSuit();
        dealt();
        mixed();
        testsOfSeasons();
        stopEndsAll();
        numbersOfSeasons();
        statusesOfPromises();
        eachStatus();
        nothingButStatus();
        tapeAndFault();
        namesOfPlans();
        edge.end();
    }

    // ---- part 1

    private static final String[] HEADS = {"ranks 5;", "suit a red;", "suit b;"};
    private static final String[] PARTS = {"law 1;", "redeals 2;", "row a 1 b 5;", "row;", "stock b 1 a 3;", "stock;",
        "field f of a dries 1 water 2 high 3;", "field g of b dries 4 high 5;", "field h of b dries 6 water 7;",
        "field i of a dries 8;"};

    /** All PARTS, mixed: taken as they stand if what they name is told ahead, else the first that is not is the FAULT. */
    private static void partsInAnyOrder() {
        edge.says("VALLEY: {PART}. PART: ranks NUMBER ; or suit NAME [red] ; or law NUMBER ; or redeals NUMBER ; or row {NAME "
                + "NUMBER} ; or stock {NAME NUMBER} ; or field NAME of NAME dries NUMBER [water NUMBER] [high NUMBER] ;");
        edge.in(WaterPatience::new);
        Random random = new Random(11);
        for (int i = 0; i < 600; i++) {
            List<String> heads = new ArrayList<>(Arrays.asList(HEADS));
            List<String> parts = new ArrayList<>(Arrays.asList(PARTS));
            Collections.shuffle(heads, random);
            Collections.shuffle(parts, random);
            // by every other time the heads do not stand ahead
            List<String> all = new ArrayList<>(heads);
            all.addAll(parts);
            if (i % 2 == 1) {
                Collections.shuffle(all, random);
            }
            String text = String.join("", all);
            int[] fault = firstFault(all);
            if (fault == null) {
                asTold(edge.valley(text), all);
            } else {
                edge.valleyFault(fault[0], fault[1], text);
            }
        }
    }

    /** Kind and place of what is named ahead of its telling, or null. */
    private static int[] firstFault(List<String> parts) {
        String told = "";
        boolean ranks = false;
        boolean cards = false;
        int at = 0;
        for (String part : parts) {
            if (part.startsWith("ranks")) {
                if (cards) {
                    return new int[] {2, at};
                }
                ranks = true;
            } else if (part.startsWith("suit")) {
                told += part.charAt(5);
            } else {
                cards |= part.startsWith("row") || part.startsWith("stock");
                Matcher m = Pattern.compile("(?<=row |stock |of |\\d )([ab])(?: (\\d))?").matcher(part);
                while (m.find()) {
                    if (told.indexOf(m.group(1)) < 0) {
                        return new int[] {3, at + m.start(1)};
                    }
                    // without "ranks 5" ahead there are 4
                    if (m.group(2) != null && m.group(2).equals("5") && !ranks) {
                        return new int[] {4, at + m.start(2)};
                    }
                }
            }
            at += part.length();
        }
        return null;
    }

    private static void asTold(WaterPatience x, List<String> parts) {
        int a = parts.indexOf(HEADS[1]) < parts.indexOf(HEADS[2]) ? 0 : 1;
        int b = 1 - a;
        int[] many = {5, 2, 1, 2, 2, 4, 0, 2, 0, 0, 2, 0, 0, 1 << a};
        for (int what = 0; what <= 13; what++) {
            edge.on(x, many[what], "many", what);
        }
        int row = parts.indexOf("row a 1 b 5;") < parts.indexOf("row;") ? 0 : 1;
        edge.on(x, 6 * a, "card", row, 0);
        edge.on(x, 6 * b + 4, "card", row, 1);
        edge.on(x, 0, "length", 1 - row);
        edge.on(x, 6 * b, "stockAt", 0);
        edge.on(x, 6 * a + 2, "stockAt", 1);
        int field = 0;
        for (String part : parts) {
            if (part.startsWith("field")) {
                int i = part.charAt(6) - 'f';
                int[][] want = {{a, 1, 2, 3, 0}, {b, 4, 10, 5, 0}, {b, 6, 7, 99, 0}, {a, 8, 10, 99, 0}};
                for (int what = 0; what <= 4; what++) {
                    edge.on(x, want[i][what], "field", field, what);
                }
                field++;
            }
        }
    }

    private static void namesThatAreTaken() {
        edge.says("3 a new NAME that is taken;");
        edge.in(Edge::rich);
        // the names of the valley ahead are free
        edge.valley("suit hearts;suit oat;field clubs of oat dries 1;");
        String[] told = {"suit a;", "suit b;", "field f of a dries 1;", "field g of b dries 1;"};
        String all = String.join("", told);
        for (String name : new String[] {"a", "b", "f", "g"}) {
            edge.valleyFault(3, all + "suit ^" + name + ";");
            edge.valleyFault(3, all + "suit ^" + name + " red;");
            edge.valleyFault(3, all + "suit ^" + name);
            edge.valleyFault(3, all + "field ^" + name + " of a dries 1;");
            edge.valley(all + "suit " + name + "x;field x" + name + " of " + name + "x dries 1;");
        }
        edge.says("a NAME that is no SUIT told ahead. 4 a NUMBER that can't be.");
        for (String name : new String[] {"c", "f", "g", "aa", "hearts"}) {
            edge.valleyFault(3, all + "row ^" + name + " 9;");
            edge.valleyFault(3, all + "stock a 1 ^" + name + " 1;");
            edge.valleyFault(3, all + "field h of ^" + name + " dries 99;");
        }
    }

    /** Each NUMBER of a text (#) with what it can be: every one from 0 on, and some beyond. */
    private static void numbersThatCannotBe() {
        edge.says("4 a NUMBER that can't be.");
        edge.in(WaterPatience::new);
        String field = "suit a;field f of a dries ";
        String[] texts = {"ranks #;", "law #;", "redeals #;", "suit a;row a #;", "suit a;stock a #;",
            "ranks 6;suit a;row a #;", field + "#;", field + "1 water #;", field + "1 high #;", field + "1 water 5 high #;"};
        int[][] can = {{1, 6}, {0, 2}, {0, 9}, {1, 4}, {1, 4}, {1, 6}, {0, 20}, {0, 99}, {1, 99}, {1, 99}};
        for (int i = 0; i < texts.length; i++) {
            for (int number : numbers()) {
                String text = texts[i].replace("#", String.valueOf(number));
                if (number >= can[i][0] && number <= can[i][1]) {
                    edge.valley(text);
                } else {
                    edge.valleyFault(4, texts[i].indexOf('#'), text);
                }
            }
        }
    }

    private static int[] numbers() {
        int[] all = new int[113];
        for (int i = 0; i <= 110; i++) {
            all[i] = i;
        }
        all[111] = 1000;
        all[112] = 9999;
        return all;
    }

    // ---- part 2

    private static void places() {
        edge.says("PLACES: ROWS by their numbers, 6 the WASTE, 7 HOME");
        for (int rows = 0; rows <= 6; rows++) {
            for (int from = -2; from <= 9; from++) {
                WaterPatience x = Due.with("suit a;suit b;" + Due.times("row;", rows) + "stock b 2;");
                x.deal();
                boolean source = from >= 0 && from < rows || from == 6;
                for (int to = -2; to <= 9; to++) {
                    boolean target = to >= 0 && to < rows || to == 7;
                    if (source && target) {
                        // b 2 can go from the waste to any row, all of which are empty, and can't come home
                        edge.on(x, from == 6 && to != 7 ? 1 : 0, "canMove", from, to);
                    } else {
                        edge.refusedOn(x, 2, "canMove", from, to);
                        edge.refusedOn(x, 2, "move", from, to);
                    }
                }
                if (from == 6) {
                    edge.on(x, 7, "topOf", 6);
                } else {
                    edge.refusedOn(x, source ? 8 : 2, "topOf", from);
                }
            }
        }
    }

    /** Whatever is HOME, of all ranks that are left just one can come there, be it from a ROW or from the WASTE. */
    private static void nextOfItsSuit() {
        edge.says("MOVE of the top CARD from a ROW or the WASTE to HOME, if it is the next of its SUIT;");
        for (int home = 0; home <= 5; home++) {
            for (int rank = home + 1; rank <= 6; rank++) {
                StringBuilder ahead = new StringBuilder("ranks 6;suit b;suit a;row");
                for (int r = home; r >= 1; r--) {
                    ahead.append(" a ").append(r);
                }
                String card = "a " + rank;
                WaterPatience row = Due.with(ahead + ";row b 1 " + card + ";");
                WaterPatience waste = Due.with(ahead + ";stock b 1 " + card + ";");
                waste.deal();
                waste.deal();
                row.run();
                waste.run();
                movesHome(row, rank == home + 1, 1, home);
                movesHome(waste, rank == home + 1, 6, home);
            }
        }
    }

    /** With a 1 to a rank HOME and b 1 below the card; a run that took the card has taken b 1 as well. */
    private static void movesHome(WaterPatience x, boolean next, int from, int home) {
        edge.is("HOME of a", x.homeOf(1), next ? home + 1 : home);
        edge.is("HOME of b", x.homeOf(0), next ? 1 : 0);
        if (!next) {
            edge.refusedOn(x, 9, "move", from, 7);
            edge.on(x, 0, "runs");
        }
    }

    private static void dealt() {
        edge.says("DEAL: the next CARD of the STOCK comes onto the WASTE;");
        WaterPatience x = Due.with("suit a;suit b;redeals 1;row;stock a 4 b 3 a 2 b 1;");
        int[] cards = {3, 8, 1, 6};
        for (int k = 0; k < 4; k++) {
            edge.on(x, 4 - k, "many", 7);
            edge.on(x, cards[k], "stockAt", 0);
            edge.on(x, cards[k], "deal");
            edge.on(x, cards[k], "topOf", 6);
            edge.on(x, k + 1, "many", 8);
        }
        // what lay below comes up again as the top is taken off
        edge.on(x, 6, "move", 6, 7);
        edge.on(x, 1, "topOf", 6);
        edge.on(x, 1, "move", 6, 0);
        edge.on(x, 8, "topOf", 6);
        edge.on(x, -1, "deal");
        edge.on(x, 3, "stockAt", 0);
        edge.on(x, 8, "stockAt", 1);
        edge.refusedOn(x, 8, "stockAt", 2);
    }

    // ---- part 3

    /** Packs of few cards, written out: by seed 0 the first s is 10,711, the second 48,132. */
    private static void mixed() {
        edge.says("PACK by a seed (0 to 9,999): all CARDS of all SUITS, in order of their numbers, are mixed: from the last "
                + "place on (k) down to 1 the CARD there changes with that at the draw by k and 1 more; then ROW 0");
        // 10,711 by 8 is 1,338: by 2 it leaves 0, so that both change
        stock("ranks 2;suit a;", 0, 1, 0);
        // by 3 it leaves 0: 2 1 0; 48,132 by 8 is 6,016, which by 2 leaves 0: 1 2 0
        stock("ranks 3;suit a;", 0, 1, 2, 0);
        stock("ranks 1;suit a;suit b;suit c;", 0, 6, 12, 0);
        // seed 1: 13,682 by 8 is 1,710, which by 2 leaves 0; seed 3: 19,624 by 8 is 2,453, which leaves 1: they stay
        stock("ranks 2;suit a;", 1, 1, 0);
        stock("ranks 2;suit a;", 3, 0, 1);
        stock("ranks 1;suit a;", 9999, 0);
        edge.in(Edge.of("ranks 2;suit a;"));
        edge.refused(5, "shuffle", 10000);
        edge.refused(5, "wets", 0, 10000);
        edge.refused(5, "wets", 0, -1);
    }

    private static void stock(String valley, int seed, int... cards) {
        WaterPatience x = Due.with(valley);
        edge.on(x, cards.length, "shuffle", seed);
        for (int k = 0; k < cards.length; k++) {
            edge.on(x, cards[k], "stockAt", k);
        }
    }

    // ---- part 4

    private static void testsOfSeasons() {
        edge.says("TEST: home NAME COMPARES NUMBER, or water NAME COMPARES NUMBER, or stuck.");
        // a 1 is home, a 3 lies there; f has 11, g has 7
        for (int number = 0; number <= 12; number++) {
            for (String sign : new String[] {"<", ">", "="}) {
                if (number <= 6) {
                    test("home a" + sign + number, 1, sign, number);
                    test("home b" + sign + number, 0, sign, number);
                }
                test("water f" + sign + number, 11, sign, number);
                test("water g" + sign + number, 7, sign, number);
            }
        }
        edge.is("stuck", passes(Due.with("suit a;row a 3;"), "stuck") ? 1 : 0, 1);
        edge.is("not stuck", passes(Due.with("suit a;row a 3;row;"), "stuck") ? 1 : 0, 0);
        edge.is("a deal is no move", passes(Due.with("suit a;row a 3;stock a 1;"), "stuck") ? 1 : 0, 1);
    }

    private static boolean passes(WaterPatience x, String test) {
        Due.seasons(x, "when " + test + ";day 1;end;");
        x.live(0);
        return x.many(6) == 1;
    }

    private static void test(String test, int is, String sign, int number) {
        WaterPatience x = Due.with("suit a;suit b;row a 3 a 1;field f of a dries 0;field g of b dries 0 water 7;");
        x.run();
        boolean holds = sign.equals("<") && is < number || sign.equals(">") && is > number || sign.equals("=") && is == number;
        edge.is(test, passes(x, test) ? 1 : 0, holds ? 1 : 0);
    }

    /** Within each depth of whens and loops. */
    private static void stopEndsAll() {
        edge.says("or stop ;");
        String ahead = "";
        String behind = "";
        for (int deep = 0; deep <= 3; deep++) {
            WaterPatience x = Due.with("suit a;row a 2;", ahead + "day 1;stop;day 1;" + behind + "day 1;");
            edge.on(x, deep + 2, "live", 0);
            edge.on(x, 1, "many", 6);
            ahead += deep % 2 == 0 ? "loop 9;" : "when stuck;";
            behind = "end;day 1;" + behind;
        }
    }

    private static void numbersOfSeasons() {
        edge.says("(a SUIT behind home, a FIELD behind water). 4 a NUMBER that can't be.");
        edge.in(Edge.of("suit a;row a 2;field f of a dries 0;"));
        String[] texts = {"day #;", "move # 7;", "move 0 #;", "loop #;end;", "when home a < #;end;", "when home a = #;end;",
            "when water f > #;end;"};
        int[][] can = {{1, 20}, {0, 6}, {0, 7}, {1, 99}, {0, 6}, {0, 6}, {0, 99}};
        for (int i = 0; i < texts.length; i++) {
            for (int number : numbers()) {
                String text = texts[i].replace("#", String.valueOf(number));
                if (number >= can[i][0] && number <= can[i][1]) {
                    edge.seasons(text);
                } else {
                    edge.seasonsFault(4, texts[i].indexOf('#'), text);
                }
            }
        }
    }

    // ---- part 5

    /** The STATUSES that the boundary tests ask for are those which the document tells in the promises themselves. */
    private static void statusesOfPromises() throws IOException {
        edge.says("STATUS of a call is the first of these that holds");
        String document = Files.readString(Path.of("../shared/DOC.md")).replace("1, 3 (either), 11, 6, 4, asked in this order",
                "(1; 3; 11; 6; 4)");
        TreeSet<String> told = new TreeSet<>();
        Matcher promise = Pattern.compile("(?s)`\\w+ (\\w+)\\([^)]*\\)`: (.*?)(?=##)").matcher(document);
        while (promise.find()) {
            Matcher group = Pattern.compile("\\((\\d+(?:: [^;)]*)?(?:; \\d+(?:: [^;)]*)?)*)\\)").matcher(promise.group(2));
            String last = "";
            while (group.find()) {
                last = group.group(1);
            }
            if (!last.isEmpty()) {
                told.add(promise.group(1) + " " + last.replaceAll(":[^;]*", "").replace(";", ""));
            }
        }
        TreeSet<String> asked = new TreeSet<>(Arrays.asList(Edge.STATUSES));
        edge.is("promises with a STATUS: " + told + ", not " + asked, told.equals(asked) ? 1 : 0, 1);
    }

    private static void eachStatus() {
        edge.in(Edge::taped);
        edge.says("1 no such TRAY (or sort). 2 no such SUIT, ROW, FIELD, PLACE. 3 the TRAY is MISSING. 4 a place that the TRAY "
                + "has not, or too few numbers. 5 a number that can't be");
        edge.refused(1, "read", 4, 0);
        edge.refused(1, "tray", 0, 4, 1);
        edge.refused(2, "homeOf", 2);
        edge.refused(2, "length", 3);
        edge.refused(2, "field", 3, 0);
        edge.refused(2, "topOf", 7);
        edge.refused(3, "read", 3, 0);
        edge.refused(4, "read", 0, 3);
        edge.refused(4, "like", 2, 0, 1);
        edge.refused(5, "rule", 3);
        edge.says("6 below 0 (a TRAY's length). 7 one too many. 8 there is none. 9 it can't be. 10 a FAULT. 11 TRAYS of unlike "
                + "sorts. 0 else.");
        edge.refused(6, "tray", 3, 0, -1);
        edge.refused(8, "stockAt", 0);
        edge.refused(9, "move", 0, 0);
        edge.refused(11, "pour", 0, 0, 1, 0, 1);
        edge.asks(1, "pour", 0, 0, 2, 0, 0);
        edge.in(() -> {
            WaterPatience x = Edge.taped();
            x.mark();
            return x;
        });
        edge.refused(7, "mark");
        edge.in(Edge::rich);
        edge.valleyFault(2, "^go");
    }

    /** Behind each STATUS the next call with none sets it to 0 again; what it answers is as if nothing had been ahead. */
    private static void nothingButStatus() {
        edge.says("A call with another STATUS than 0 gives NONE, or false, and changes nothing but STATUS");
        WaterPatience x = Edge.taped();
        WaterPatience untouched = Edge.taped();
        for (int bad : new int[] {-1, 77, Integer.MIN_VALUE, Integer.MAX_VALUE}) {
            edge.refusedOn(x, 1, "tray", bad, 0, 1);
            edge.refusedOn(x, 1, "write", bad, 0, 1);
            edge.refusedOn(x, 1, "read", bad, 0);
            edge.refusedOn(x, 1, "pour", bad, 0, 0, 0, 1);
            edge.refusedOn(x, 5, "valley", bad);
            edge.refusedOn(x, 5, "seasons", bad);
            for (String call : new String[] {"many", "day", "rule", "shuffle", "live", "lived"}) {
                // of these 77 is a number of days and a seed
                if (bad != 77 || !call.equals("day") && !call.equals("shuffle") && !call.equals("live")) {
                    edge.refusedOn(x, 5, call, bad);
                }
            }
            for (String call : new String[] {"length", "topOf", "homeOf", "runWater", "next", "nextAt", "over", "wilts", "cheat"}) {
                edge.refusedOn(x, 2, call, bad);
            }
            for (String call : new String[] {"card", "field", "move", "rain", "sow", "canMove", "cheatAt", "wets", "packTop"}) {
                edge.refusedOn(x, 2, call, bad, 0);
            }
            edge.refusedOn(x, 2, "meanWets", bad, 0, 1);
            edge.refusedOn(x, 1, "copyRow", 0, bad);
            for (String call : new String[] {"yields", "first", "game"}) {
                edge.refusedOn(x, 5, call, bad, 1);
                edge.refusedOn(x, 5, call, 1, bad);
            }
            for (String call : new String[] {"like", "likeFirst"}) {
                edge.refusedOn(x, 1, call, bad, 0, 1);
            }
            edge.refusedOn(x, 5, "bestSuit", 0, bad);
            edge.refusedOn(x, 5, "mean", 0, bad);
            edge.refusedOn(x, 8, "stockAt", bad);
            edge.refusedOn(x, 8, "moveAt", bad);
        }
        edge.is("all that can be seen", Look.of(x).equals(Look.of(untouched)) ? 1 : 0, 1);
    }

    private static void tapeAndFault() {
        edge.says("(but valley(), seasons() with 10 the tape, and what fault() tells)");
        for (String call : new String[] {"valley", "seasons"}) {
            WaterPatience x = Edge.rich();
            Due.tape(x, "oops");
            edge.refusedOn(x, 10, call, 4);
            edge.is("fault(0)", x.fault(0), 2);
            edge.is("fault(1)", x.fault(1), 0);
            edge.is("the tape", x.feed(0, 0, 0, 0, 0), 20);
            // of another status neither the tape nor the fault knows
            edge.refusedOn(x, 5, call, 21);
            edge.is("fault(0) still", x.fault(0), 2);
            edge.is("the tape is longer", x.feed(0, 0, 0, 0, 0), 40);
        }
    }

    // ---- promises that are told by a term alone

    private static void namesOfPlans() {
        edge.says("NEXT of a SUIT: the CARD (2; 8).");
        edge.in(Edge.of("suit a;suit b;row a 2 a 1;row b 2;"));
        edge.asks(0, "next", 0);
        edge.refused(8, "next", 1);
        edge.refused(2, "next", 2);
        WaterPatience x = edge.gives(0, "move", 0, 7);
        edge.on(x, 1, "next", 0);
        edge.says("OVER it: CARDS (2; 8).");
        edge.in(Edge.of("suit a;suit b;row a 1 a 3 b 4;row b 2;stock a 2;"));
        edge.asks(2, "over", 0);
        edge.refused(8, "over", 1);
        edge.refused(2, "over", 2);
        edge.says("YIELD (5).");
        edge.in(Edge.of("suit a;suit b;row a 2 a 1;row b 1;"));
        edge.asks(3, "yields", 1, 2);
        edge.asks(1, "yields", 2, 2);
        edge.asks(4, "yields", 3, 3);
        edge.refused(5, "yields", 4, 1);
        edge.refused(5, "yields", 1, 0);
    }
}
