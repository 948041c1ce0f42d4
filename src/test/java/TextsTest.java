/** Promises 9 to 20: the tape, the texts and their faults, what there is. */
public final class TextsTest {
    private static final Due due = new Due();

    public static void main(String[] args) {
        promise9();
        promise10();
        tokens();
        faultsOfValleys();
        limitsOfValleys();
        promise11();
        faultsOfSeasons();
        promise12();
        promise13();
        promises14to18();
        promise19();
        promise20();
        due.end();
    }

    private static void promise9() {
        WaterPatience x = new WaterPatience();
        x.many(99);
        for (int i = 1; i <= 45; i++) {
            due.is("feed " + i, x.feed(0x20202020, 0x20202020, 0x20202020, 0x20202020, 0x20202020), 20 * i);
        }
        due.is("feed above 900", x.feed(1, 1, 1, 1, 1), -1);
        due.is("feed has no status", x.status(), 5);
        due.good("all 900", x.valley(900), x, 0);
        due.is("the tape is empty then", x.feed(0, 0, 0, 0, 0), 20);
        WaterPatience y = new WaterPatience();
        y.feed(0x20202020, 0x20202021, 0, 0, 0);
        y.valley(20);
        due.is("the highest byte is first", y.fault(1), 7);
    }

    private static void promise10() {
        WaterPatience x = new WaterPatience();
        due.refused("more than the tape has", x.valley(1), x, 5);
        due.good("nothing", x.valley(0), x, 0);
        Due.tape(x, "suit a;field f of a dries 1;");
        due.refused("below 0", x.valley(-1), x, 5);
        due.refused("41 of 40", x.valley(41), x, 5);
        due.good("the tape stayed", x.valley(28), x, 1);
        due.good("SUITS", x.many(1), x, 1);
        due.is("a fault", Due.valley(x, "suit b;suit b;"), -1);
        due.is("its status", x.status(), 10);
        due.refused("the tape is empty then", x.valley(1), x, 5);
        due.good("the old one stays", x.many(5), x, 1);
        Due.tape(x, "suit a;suit b;!");
        due.good("the first bytes alone", x.valley(14), x, 0);
        due.good("SUITS of the new one", x.many(1), x, 2);
        Due.seasons(x, "day 1;");
        x.day(5);
        due.good("a new one", Due.valley(x, "suit c;"), x, 0);
        due.refused("has no seasons", x.live(0), x, 8);
        due.good("DAY 0", x.many(6), x, 0);
        secondValley();
    }

    /** Nothing of a valley is left in the next, be it taken or not. */
    private static void secondValley() {
        WaterPatience x = Due.with("ranks 2;law 2;redeals 3;suit a red;row a 1;stock a 2;field f of a dries 20;");
        x.run();
        x.deal();
        x.day(1);
        due.is("withered", x.many(11), 1);
        Due.valley(x, "ranks 3;law 1;redeals 2;suit a;suit b;row a 1;stock b 1;!");
        due.good("another", Due.valley(x, "suit z;field f of z dries 1;"), x, 1);
        int[] want = {4, 1, 0, 0, 0, 1, 0, 0, 0, 0, 0, 0, 0, 0};
        for (int what = 0; what < want.length; what++) {
            due.good("then many(" + what + ")", x.many(what), x, want[what]);
        }
        x.day(9);
        x.day(9);
        x.seasons(0);
        x.mean(0, 1);
        due.good("nor of what was lived on trial", Due.valley(x, "suit z;field f of z dries 1;"), x, 1);
        due.good("DAY", x.many(6), x, 0);
        due.good("not withered", x.many(11), x, 0);
        due.good("all may be told again", Due.valley(x, "ranks 1;law 1;redeals 1;suit a;row a 1;"), x, 0);
        due.good("and again", Due.valley(x, "ranks 1;law 1;redeals 1;suit a;row a 1;"), x, 0);
        due.refused("not the field's name", Due.seasons(x, "when water f = 1; end;"), x, 10);
        due.good("seasons behind ones that had no end", Due.seasons(x, "loop 1; end; loop 1; end;"), x, 2);
        Due.seasons(x, "loop 1; loop 1;");
        due.good("and again", Due.seasons(x, "deal;"), x, 1);
    }

    private static void tokens() {
        due.valleyFault("", 0, -1);
        due.valleyFault("\n  \n", 0, -1);
        due.valleyFault("ranks3;suit\na\nred;row a1a 0003 ;", 0, -1);
        due.valleyFault("ranks 3;\t", 1, 8);
        due.valleyFault("ranks 3;\r", 1, 8);
        due.valleyFault("Ranks 3;", 1, 0);
        due.valleyFault("ranks -3;", 1, 6);
        due.valleyFault("ranks 3, ", 1, 7);
        due.valleyFault("ranks 00003;", 1, 6);
        due.valleyFault("12345", 1, 0);
        due.valleyFault("1234", 2, 0);
        due.valleyFault("suit \u00ff;", 1, 5);
        due.valleyFault("suit \u00e9;", 1, 5);
        due.valleyFault("suit a\u0000;", 1, 6);
        due.valleyFault("suit `;", 1, 5);
        due.valleyFault("suit {;", 1, 5);
        due.valleyFault("suit /;", 1, 5);
        due.valleyFault("suit :;", 1, 5);
    }

    private static void faultsOfValleys() {
        due.valleyFault("go;", 2, 0);
        due.valleyFault(";", 2, 0);
        due.valleyFault("day 1;", 2, 0);
        due.valleyFault("ranks", 2, 5);
        due.valleyFault("ranks   ", 2, 8);
        due.valleyFault("ranks 3", 2, 7);
        due.valleyFault("ranks ;", 2, 6);
        due.valleyFault("ranks a;", 2, 6);
        due.valleyFault("ranks 3 3;", 2, 8);
        due.valleyFault("suit abcdefgh;", 0, -1);
        due.valleyFault("suit abcdefghi;", 2, 5);
        due.valleyFault("suit red;", 2, 5);
        due.valleyFault("suit 1;", 2, 5);
        due.valleyFault("suit a red red;", 2, 11);
        due.valleyFault("suit a blue;", 2, 7);
        for (String word : new String[] {"ranks", "suit", "red", "law", "redeals", "row", "stock", "field", "of",
            "dries", "water", "high", "day", "move", "deal", "run", "any", "when", "home", "stuck", "loop", "end",
            "stop"}) {
            due.valleyFault("suit " + word + ";", 2, 5);
            due.valleyFault("suit " + word + "x;", 0, -1);
        }
        due.valleyFault("suit a;suit a;", 3, 12);
        due.valleyFault("suit a;field f of a dries 1;suit f;", 3, 33);
        due.valleyFault("suit a;field a of a dries 1;", 3, 13);
        due.valleyFault("suit a;field f of a dries 1;field f of a dries 1;", 3, 34);
        due.valleyFault("suit a;field f of f dries 1;", 3, 18);
        due.valleyFault("suit a;field f of b dries 1;", 3, 18);
        due.valleyFault("suit a;field f of a dries 1;row f 1;", 3, 32);
        due.valleyFault("row a 1;suit a;", 3, 4);
        due.valleyFault("suit a;row a;", 2, 12);
        due.valleyFault("suit a;row a a;", 2, 13);
        due.valleyFault("suit a;row 1;", 2, 11);
        due.valleyFault("suit a;row red 1;", 2, 11);
        due.valleyFault("suit a;row abcdefghi 1;", 2, 11);
        due.valleyFault("suit a;row a 1", 2, 14);
        due.valleyFault("suit a;row a 5;", 4, 13);
        due.valleyFault("suit a;row a 0;", 4, 13);
        due.valleyFault("ranks 6;suit a;row a 6;", 0, -1);
        due.valleyFault("suit a;row a 1 a 1;", 5, 17);
        due.valleyFault("suit a;row a 1;stock a 1;", 5, 23);
        due.valleyFault("suit a;stock a 1;stock a 2 a 1;", 5, 29);
        due.valleyFault("row ;ranks 3;", 2, 5);
        due.valleyFault("stock ;ranks 3;", 2, 7);
        due.valleyFault("ranks 3;row ;ranks 3;", 2, 13);
        due.valleyFault("ranks 3;ranks 9;", 5, 8);
        due.valleyFault("law 1;law 1;", 5, 6);
        due.valleyFault("redeals 1;redeals 1;", 5, 10);
        due.valleyFault("field f of;", 2, 10);
        due.valleyFault("suit a;field f a dries 1;", 2, 15);
        due.valleyFault("suit a;field f of a water 1;", 2, 20);
        due.valleyFault("suit a;field f of a dries;", 2, 25);
        due.valleyFault("suit a;field f of a dries 1 high 5 water 5;", 2, 35);
        due.valleyFault("suit a;field f of a dries 1 water 5 water 5;", 2, 36);
        due.valleyFault("suit a;field f of a dries 1 water;", 2, 33);
        due.valleyFault("suit a;field f of a dries 1 high 5 < ;", 2, 35);
    }

    private static void limitsOfValleys() {
        due.valleyFault("ranks 0;", 4, 6);
        due.valleyFault("ranks 7;", 4, 6);
        due.valleyFault("law 3;", 4, 4);
        due.valleyFault("law 2;", 0, -1);
        due.valleyFault("redeals 10;", 4, 8);
        due.valleyFault("redeals 9;", 0, -1);
        String field = "suit a;field f of a dries ";
        due.valleyFault(field + "20;", 0, -1);
        due.valleyFault(field + "21;", 4, 26);
        due.valleyFault(field + "0 water 0 high 1;", 0, -1);
        due.valleyFault(field + "0 water 99 high 99;", 0, -1);
        due.valleyFault(field + "0 water 100;", 4, 34);
        due.valleyFault(field + "0 high 0;", 4, 33);
        due.valleyFault(field + "0 high 100;", 4, 33);
        due.valleyFault("suit a;suit b;suit c;suit d;", 0, -1);
        due.valleyFault("suit a;suit b;suit c;suit d;suit", 6, 28);
        due.valleyFault(Due.times("row;", 6), 0, -1);
        due.valleyFault(Due.times("row;", 7), 6, 24);
        StringBuilder fields = new StringBuilder("suit a;");
        for (char c = 'b'; c < 'h'; c++) {
            fields.append("field ").append(c).append(" of a dries 1;");
        }
        due.valleyFault(fields.toString(), 0, -1);
        due.valleyFault(fields + "field", 6, fields.length());
        String twelve = "ranks 6;suit a;suit b;suit c;row a 1 a 2 a 3 a 4 a 5 a 6 b 1 b 2 b 3 b 4 b 5 b 6";
        due.valleyFault(twelve + ";", 0, -1);
        due.valleyFault(twelve + " c 1;", 6, twelve.length() + 1);
        due.valleyFault(twelve + " d 1;", 3, twelve.length() + 1);
        due.valleyFault(twelve + " red 1;", 2, twelve.length() + 1);
        due.valleyFault(twelve + ";stock c 1 c 2 c 3 c 4 c 5 c 6;stock;", 0, -1);
    }

    private static void promise11() {
        WaterPatience x = Due.with(Due.VALLEY);
        due.good("steps", Due.seasons(x, "when stuck; loop 3; deal; end; end; stop;"), x, 4);
        Due.tape(x, "day 1;");
        due.refused("below 0", x.seasons(-1), x, 5);
        due.refused("21 of 20", x.seasons(21), x, 5);
        due.good("the tape stayed", x.seasons(6), x, 1);
        due.good("those count", x.live(0), x, 1);
        due.is("a fault", Due.seasons(x, "day 0;"), -1);
        due.is("its status", x.status(), 10);
        due.refused("the tape is empty then", x.seasons(1), x, 5);
        due.good("the old ones stay", x.live(0), x, 1);
        Due.tape(x, Due.times(" ", 320));
        due.refused("above 300", x.seasons(301), x, 5);
        due.good("300", x.seasons(300), x, 0);
        due.good("seasons without steps", x.live(0), x, 0);
        due.good("30 steps", Due.seasons(x, Due.times("stop;", 30)), x, 30);
        due.good("an end is no step", Due.seasons(x, Due.times("stop;", 29) + "loop 1;end;"), x, 30);
    }

    private static void faultsOfSeasons() {
        due.seasonsFault("", 0, -1);
        due.seasonsFault("day 1;move 0 7;move 6 0;deal;run;any;stop;", 0, -1);
        due.seasonsFault("day 20;", 0, -1);
        due.seasonsFault("day 21;", 4, 4);
        due.seasonsFault("day 00020;", 1, 4);
        due.seasonsFault("day;", 2, 3);
        due.seasonsFault("!", 1, 0);
        due.seasonsFault("day 1;!", 1, 6);
        due.seasonsFault("day !", 1, 4);
        due.seasonsFault("move 0 !", 1, 7);
        due.seasonsFault("when !", 1, 5);
        due.seasonsFault("when home !", 1, 10);
        due.seasonsFault("when home hearts !", 1, 17);
        due.seasonsFault("when home hearts = !", 1, 19);
        due.seasonsFault("ranks 3;", 2, 0);
        due.seasonsFault("home hearts > 1;", 2, 0);
        due.seasonsFault("loop 99;end;", 0, -1);
        due.seasonsFault("loop 100;end;", 4, 5);
        due.seasonsFault("loop 1;end", 2, 10);
        due.seasonsFault("loop 1;end;end;", 2, 11);
        due.seasonsFault("loop 1;when stuck;end;", 2, 22);
        due.seasonsFault("when home hearts < 6; end; when water oat = 99; end;", 0, -1);
        due.seasonsFault("when home hearts ; 1; end;", 2, 17);
        due.seasonsFault("when home hearts <= 1; end;", 2, 18);
        due.seasonsFault("when home red < 1; end;", 2, 10);
        due.seasonsFault("when home abcdefghi < 1; end;", 2, 10);
        due.seasonsFault("when home; end;", 2, 9);
        due.seasonsFault("when oat < 1; end;", 2, 5);
        due.seasonsFault("when home nobody < 1; end;", 3, 10);
        due.seasonsFault("when water hearts < 1; end;", 3, 11);
        due.seasonsFault("when stuck;loop 1;when stuck;end;end;end;", 0, -1);
        due.seasonsFault("when stuck;loop 1;when stuck;loop 1;", 7, 29);
        due.seasonsFault("loop 1;loop 1;loop 1;end;loop 1;end;loop 1;when stuck;", 7, 43);
        due.seasonsFault(Due.times("any;", 30) + "end;", 2, 120);
        due.seasonsFault(Due.times("any;", 30) + "go;", 2, 120);
        due.seasonsFault(Due.times("any;", 30) + "any;", 6, 120);
        due.seasonsFault("loop 1;loop 1;loop 1;" + Due.times("any;", 27) + "loop 1;", 6, 21 + 108);
        due.seasonsFault("loop 1;" + Due.times("any;", 29) + "end;", 0, -1);
    }

    private static void promise12() {
        WaterPatience x = new WaterPatience();
        due.is("ahead of any", x.fault(0), -1);
        due.is("its place, ahead of any", x.fault(1), -1);
        x.valley(7);
        due.is("a call with 5 is none", x.fault(0), -1);
        Due.valley(x, "suit a;suit a;");
        due.is("a fault", x.fault(0), 3);
        due.is("its place", x.fault(1), 12);
        due.is("fault(2)", x.fault(2), -1);
        due.is("fault(-1)", x.fault(-1), -1);
        x.seasons(301);
        due.is("it stays behind a 5", x.fault(0), 3);
        due.is("its place stays", x.fault(1), 12);
        x.seasons(0);
        due.is("none now", x.fault(0), 0);
        due.is("no place now", x.fault(1), -1);
        x.many(50);
        x.fault(0);
        due.is("fault has no status", x.status(), 5);
    }

    private static void promise13() {
        WaterPatience x = Due.with("ranks 2;suit a;suit b red;suit c;suit d red;law 1;redeals 3;"
                + "row d 1 a 1;row;row a 2;stock b 1 b 2;stock c 2;"
                + "field f of a dries 5;field g of d dries 1 high 10;field h of b dries 20;");
        int[] want = {2, 4, 1, 3, 3, 3, 0, 3, 0, 0, 3, 0, 0, 10};
        for (int what = 0; what < want.length; what++) {
            due.good("many(" + what + ")", x.many(what), x, want[what]);
        }
        x.run();
        x.deal();
        x.day(1);
        x.rule(2);
        int[] then = {2, 4, 2, 3, 3, 3, 1, 2, 1, 3, 0, 4, 2, 10};
        for (int what = 0; what < then.length; what++) {
            due.good("then many(" + what + ")", x.many(what), x, then[what]);
        }
        due.refused("many(-1)", x.many(-1), x, 5);
        due.refused("many(14)", x.many(14), x, 5);
    }

    private static void promises14to18() {
        WaterPatience x = Due.with(Due.VALLEY);
        due.good("lowest", x.card(1, 0), x, 2);
        due.good("top", x.card(1, 1), x, 6);
        due.refused("no such card", x.card(1, 2), x, 8);
        due.refused("card -1", x.card(1, -1), x, 8);
        due.refused("no such row", x.card(3, 0), x, 2);
        due.refused("row -1", x.card(-1, 5), x, 2);
        due.good("length", x.length(1), x, 2);
        due.refused("length of no row", x.length(3), x, 2);
        due.refused("length of row -1", x.length(-1), x, 2);
        due.good("topOf", x.topOf(1), x, 6);
        due.refused("topOf an empty waste", x.topOf(6), x, 8);
        due.refused("topOf no row", x.topOf(3), x, 2);
        due.refused("topOf home", x.topOf(7), x, 2);
        due.refused("topOf -1", x.topOf(-1), x, 2);
        due.good("stock", x.stockAt(0), x, 8);
        due.refused("stockAt(1)", x.stockAt(1), x, 8);
        due.refused("stockAt(-1)", x.stockAt(-1), x, 8);
        x.deal();
        due.good("waste", x.topOf(6), x, 8);
        due.refused("stock is empty", x.stockAt(0), x, 8);
        x.move(0, 7);
        due.good("home", x.homeOf(0), x, 1);
        due.good("home of the other", x.homeOf(1), x, 0);
        due.refused("home of no suit", x.homeOf(2), x, 2);
        due.refused("home of -1", x.homeOf(-1), x, 2);
        WaterPatience y = Due.with("suit a;stock a 3 a 1;row;stock a 4;");
        due.good("next", y.stockAt(0), y, 2);
        due.good("second", y.stockAt(1), y, 0);
        due.good("told again", y.stockAt(2), y, 3);
        y.deal();
        due.good("next now", y.stockAt(0), y, 0);
        due.refused("two left", y.stockAt(2), y, 8);
        due.refused("top of an empty row", y.topOf(0), y, 8);
    }

    private static void promise19() {
        WaterPatience x = Due.with("suit a;suit b;field f of b dries 3;field g of a dries 0 water 7 high 8;");
        int[][] want = {{1, 3, 10, 99, 0}, {0, 0, 7, 8, 0}};
        for (int field = 0; field < 2; field++) {
            for (int what = 0; what < 5; what++) {
                due.good("field(" + field + ", " + what + ")", x.field(field, what), x, want[field][what]);
            }
        }
        due.refused("field 2", x.field(2, 9), x, 2);
        due.refused("field -1", x.field(-1, 0), x, 2);
        due.refused("what 5", x.field(0, 5), x, 5);
        due.refused("what -1", x.field(0, -1), x, 5);
        WaterPatience y = Due.with("suit a;field f of a dries 1 water 50 high 9;");
        due.good("above HIGH from the text on", y.field(0, 4), y, 0);
        due.good("with its water", y.field(0, 2), y, 50);
    }

    private static void promise20() {
        WaterPatience x = Due.with(Due.VALLEY);
        x.tray(0, 0, 3);
        x.write(0, 2, 77);
        due.good("copy", x.copyRow(1, 0), x, 2);
        due.is("first", x.read(0, 0), 2);
        due.is("second", x.read(0, 1), 6);
        due.is("the rest stays", x.read(0, 2), 77);
        x.tray(1, 3, 1);
        due.refused("too few", x.copyRow(1, 1), x, 4);
        due.is("nothing came", x.read(1, 0), 0);
        due.refused("no such tray ahead of no such row", x.copyRow(9, 4), x, 1);
        due.refused("no such row ahead of missing", x.copyRow(3, 2), x, 2);
        due.refused("missing", x.copyRow(0, 2), x, 3);
        x.tray(2, 0, 0);
        x.run();
        due.good("an empty row", x.copyRow(0, 2), x, 0);
    }
}
