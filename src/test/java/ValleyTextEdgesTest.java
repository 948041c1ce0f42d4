/** Boundary cases of promises 9, 10 and 12, and of a valley's text: part 1 of the terms. */
public final class ValleyTextEdgesTest {
    private static final int LEAST = Integer.MIN_VALUE;
    private static final int MOST = Integer.MAX_VALUE;
    private static final int BLANKS = 0x20202020;
    static final String[] WORDS = {"ranks", "suit", "red", "law", "redeals", "row", "stock", "field", "of", "dries",
        "water", "high", "day", "move", "deal", "run", "any", "when", "home", "stuck", "loop", "end", "stop"};
    private static final String FOUR = "suit a;suit b;suit c;suit d;";
    private static final Edge edge = new Edge();

    public static void main(String[] args) {
        promise9();
        promise10();
        longestText();
        edge.in(Edge::rich);
        tokens();
        numbers();
        names();
        wordsThatAreNoNames();
        namesOfOneThing();
        namesOfSuits();
        ranks();
        suits();
        lawAndRedeals();
        cards();
        rows();
        stock();
        fields();
        numbering();
        theEnd();
        whatCannotStand();
        theFirstAlongTheText();
        inPlaceOfThatAhead();
        promise12();
        edge.end("valley");
    }

    private static void promise9() {
        edge.says("Twenty bytes come behind those on the tape, the highest of each int first: how many it has; "
                + "NONE if there would be more than 900.");
        WaterPatience x = new WaterPatience();
        for (int i = 1; i <= 45; i++) {
            edge.is("feed " + i, x.feed(BLANKS, BLANKS, BLANKS, BLANKS, BLANKS), 20 * i);
        }
        edge.is("feed 46", x.feed(0, 0, 0, 0, 0), -1);
        edge.is("feed 47", x.feed(0, 0, 0, 0, 0), -1);
        edge.refusedOn(x, 5, "valley", 901);
        edge.on(x, 0, "valley", 900);
        edge.is("feed of the empty tape", x.feed(0, 0, 0, 0, 0), 20);
        for (int at = 0; at < 20; at++) {
            int[] five = {BLANKS, BLANKS, BLANKS, BLANKS, BLANKS};
            five[at / 4] ^= 1 << 24 - at % 4 * 8;
            WaterPatience y = new WaterPatience();
            y.feed(five[0], five[1], five[2], five[3], five[4]);
            edge.refusedOn(y, 10, "valley", 20);
            edge.is("the byte that is 33", y.fault(1), at);
        }
    }

    private static void promise10() {
        edge.in(Edge::taped);
        edge.says("The first n bytes of the tape (which is empty then, but for 5) are the VALLEY: how many FIELDS");
        WaterPatience all = edge.gives(1, "valley", 60);
        edge.refusedOn(all, 5, "valley", 1);
        edge.is("feed of the empty tape", all.feed(0, 0, 0, 0, 0), 20);
        WaterPatience some = edge.gives(0, "valley", 23);
        edge.on(some, 0, "many", 7);
        edge.refusedOn(some, 5, "valley", 1);
        WaterPatience none = edge.gives(0, "valley", 0);
        edge.on(none, 0, "many", 1);
        edge.refusedOn(none, 5, "valley", 1);
        edge.refused(5, "valley", 61);
        edge.refused(5, "valley", -1);
        edge.refused(5, "valley", LEAST);
        edge.refused(5, "valley", MOST);
        WaterPatience kept = Edge.taped();
        edge.refusedOn(kept, 5, "valley", 61);
        edge.on(kept, 1, "valley", 60);
        edge.says("(5; 10: the old one stays)");
        WaterPatience broken = Edge.taped();
        edge.refusedOn(broken, 10, "valley", 22);
        edge.on(broken, 3, "many", 5);
        edge.refusedOn(broken, 5, "valley", 1);
        edge.is("feed of the empty tape", broken.feed(0, 0, 0, 0, 0), 20);
        edge.in(WaterPatience::new);
        edge.gives(0, "valley", 0);
        edge.refused(5, "valley", 1);
        edge.refused(5, "valley", -1);
    }

    private static void longestText() {
        edge.says("A VALLEY is a TEXT of at most 900 bytes.");
        edge.in(Edge::rich);
        String last = "suit zzzzzzzz red;";
        String text = Due.times(" ", 900 - last.length()) + last;
        WaterPatience x = edge.valley(text);
        edge.on(x, 1, "many", 1);
        edge.on(x, 1, "many", 13);
        String allButOne = text.substring(0, 899);
        edge.valleyFault(2, 899, allButOne);
        edge.valleyFault(1, 899, allButOne + "!");
        edge.valleyFault(2, 900, allButOne + " ");
        edge.valleyFault(2, 900, Due.times("\n", 896) + "suit");
        WaterPatience parts = edge.valley(Due.times("stock;", 150));
        edge.on(parts, 0, "many", 7);
        edge.valleyFault(2, 899, Due.times("stock;", 149) + "stock");
    }

    private static void tokens() {
        edge.says("TOKENS, as long as they go, between them blanks (10, 32): WORDS (small letters), "
                + "NUMBERS (1 to 4 digits), SIGNS ; < > =");
        for (int b = 0; b <= 255; b++) {
            boolean blank = b == 10 || b == 32;
            boolean letter = b >= 97 && b <= 122;
            boolean digit = b >= 48 && b <= 57;
            boolean sign = b >= 59 && b <= 62;
            String one = String.valueOf((char) b);
            edge.valleyFault(blank || letter || digit || sign ? 2 : 1, blank ? 1 : 0, one + ";");
            if (blank || letter) {
                edge.valley("suit a" + one + ";");
            } else {
                edge.valleyFault(digit || sign ? 2 : 1, b == ';' ? 7 : 6, "suit a" + one + ";");
            }
        }
        edge.valley("");
        edge.valley(" ");
        edge.valley("\n");
        edge.valley(" \n \n");
        edge.valley("ranks\n6\n;suit\na\nred\n;row\na\n6\n;\n");
        edge.valley("ranks6;suit a;row a1a2a3;stock a4a0005a6;");
        edge.says("({ } any number of times, [ ] perhaps.)");
        edge.on(edge.valley("row;row ;stock;stock\n;stock;"), 2, "many", 4);
        edge.on(edge.valley("suit a red;suit b;"), 1, "many", 13);
        edge.valleyFault(2, "suit a red ^red;");
    }

    private static void numbers() {
        edge.says("(a NUMBER of 5 digits and more: at its first)");
        edge.on(edge.valley("ranks 6;"), 6, "many", 0);
        edge.on(edge.valley("ranks 0006;"), 6, "many", 0);
        edge.valleyFault(1, "ranks ^00006;");
        edge.valleyFault(1, "ranks ^000006;");
        edge.valleyFault(1, "ranks ^" + Due.times("0", 800) + "6;");
        edge.valleyFault(1, "ranks ^4294967300;");
        edge.valleyFault(4, "ranks ^9999;");
        edge.valleyFault(1, "ranks ^10000;");
        edge.valleyFault(2, "^1234");
        edge.valleyFault(1, "^12345");
        edge.valleyFault(2, "suit ^1234;");
        edge.valleyFault(1, "suit ^12345;");
        edge.valleyFault(1, "suit a;row a ^00001;");
        edge.valley("suit a;row a 0001;");
    }

    private static void names() {
        edge.says("NAME: a WORD of 1 to 8 letters");
        edge.valley("suit a;suit z;suit aaaaaaaa;suit zzzzzzzz;");
        edge.valley("suit abcdefgh;field abcdefgi of abcdefgh dries 0;row abcdefgh 1;stock abcdefgh 2;");
        edge.valley("suit abcdefgh;suit abcdefgi;suit bbcdefgh;suit abcdefg;");
        for (char letter = 'a'; letter <= 'z'; letter++) {
            String one = String.valueOf(letter);
            edge.on(edge.valley("suit " + one + ";suit " + one + one + ";suit a" + one + "a;suit " + Due.times(one, 8) + ";"),
                    4, "many", 1);
        }
        edge.says("a WORD of 9 letters and more where a NAME must stand");
        for (int more = 1; more <= 30; more++) {
            edge.valleyFault(2, "suit ^abcdefgh" + Due.times("z", more) + ";");
        }
        edge.valleyFault(2, "suit a;field ^abcdefghi of a dries 0;");
        edge.valleyFault(2, "suit abcdefgh;field f of ^abcdefghi dries 0;");
        edge.valleyFault(2, "suit abcdefgh;row ^abcdefghi 1;");
        edge.valleyFault(2, "suit abcdefgh;row abcdefgh 1 ^abcdefghi 2;");
        edge.valleyFault(2, "suit abcdefgh;stock ^abcdefghi 1;");
    }

    private static void wordsThatAreNoNames() {
        edge.says("that is none of ranks, suit, red, law, redeals, row, stock, field, of, dries, water, high, day, move, "
                + "deal, run, any, when, home, stuck, loop, end, stop.");
        for (String word : WORDS) {
            edge.valleyFault(2, "suit ^" + word + ";");
            edge.valleyFault(2, "suit a;field ^" + word + " of a dries 0;");
            edge.valleyFault(2, "suit a;field f of ^" + word + " dries 0;");
            edge.valleyFault(2, "suit a;row ^" + word + " 1;");
            edge.valleyFault(2, "suit a;stock a 1 ^" + word + " 2;");
            edge.valley("suit " + word + "x;");
            edge.valley("suit x" + word + ";");
            edge.valley("suit " + word.substring(0, word.length() - 1) + ";");
        }
    }

    private static void namesOfOneThing() {
        edge.says("One NAME is of one thing alone.");
        edge.valleyFault(3, "suit a;suit ^a;");
        edge.valleyFault(3, "suit a;suit b;suit c;suit ^c red;");
        edge.valleyFault(3, "suit abcdefgh;suit ^abcdefgh;");
        edge.valleyFault(3, "suit a;field ^a of a dries 0;");
        edge.valleyFault(3, "suit a;field f of a dries 0;suit ^f;");
        edge.valleyFault(3, "suit a;field f of a dries 0;field ^f of a dries 0;");
        edge.valley("suit oat;field hearts of oat dries 0;");
        edge.valley("suit a;suit aa;suit aaa;field aaaa of a dries 0;");
    }

    private static void namesOfSuits() {
        edge.says("a NAME that is no SUIT told ahead");
        edge.valleyFault(3, "row ^a 1;suit a;");
        edge.valleyFault(3, "stock ^a 1;suit a;");
        edge.valleyFault(3, "field f of ^a dries 0;suit a;");
        edge.valleyFault(3, "suit a;row a 1 ^b 1;");
        edge.valleyFault(3, "suit a;stock ^aa 1;");
        edge.valleyFault(3, "suit a;field f of ^f dries 0;");
        edge.valleyFault(3, "suit a;field f of a dries 0;row ^f 1;");
        edge.valleyFault(3, "suit a;field f of a dries 0;field g of ^f dries 0;");
        edge.valleyFault(3, "row ^hearts 1;");
    }

    private static void ranks() {
        edge.says("RANKS (1 to 6; 4 without), told ahead of all rows and stocks.");
        for (int ranks = 1; ranks <= 6; ranks++) {
            WaterPatience x = edge.valley("ranks " + ranks + ";suit a;row a " + ranks + ";");
            edge.on(x, ranks, "many", 0);
            edge.on(x, ranks - 1, "card", 0, 0);
            edge.valleyFault(4, "ranks " + ranks + ";suit a;row a ^" + (ranks + 1) + ";");
            edge.valleyFault(4, "ranks " + ranks + ";suit a;stock a ^" + (ranks + 1) + ";");
        }
        edge.valleyFault(4, "ranks ^0;");
        edge.valleyFault(4, "ranks ^7;");
        edge.on(edge.valley(""), 4, "many", 0);
        edge.valley("suit a;row a 4;");
        edge.valleyFault(4, "suit a;row a ^5;");
        edge.valley("suit a;law 0;redeals 0;field f of a dries 0;ranks 6;row a 6;");
        edge.says("ranks behind a row, a stock: at that WORD");
        edge.valleyFault(2, "row;^ranks 4;");
        edge.valleyFault(2, "stock;^ranks 4;");
        edge.valleyFault(2, "row;^ranks");
        edge.valleyFault(2, "ranks 4;row;^ranks 4;");
        edge.says("5 ranks, law, redeals told already (at that WORD)");
        edge.valleyFault(5, "ranks 4;^ranks 4;");
        edge.valleyFault(5, "ranks 4;^ranks");
        edge.valleyFault(5, "ranks 4;suit a;^ranks 0;");
    }

    private static void suits() {
        edge.says("SUITS, at most 4: RED or black.");
        edge.on(edge.valley(""), 0, "many", 1);
        edge.on(edge.valley("suit a;"), 1, "many", 1);
        WaterPatience four = edge.valley(FOUR);
        edge.on(four, 4, "many", 1);
        edge.on(four, 0, "many", 13);
        edge.on(edge.valley("suit a red;suit b red;suit c red;suit d red;"), 15, "many", 13);
        edge.on(edge.valley("suit a;suit b;suit c;suit d red;"), 8, "many", 13);
        edge.says("6 a fifth suit, a seventh row, field (at that WORD)");
        edge.valleyFault(6, FOUR + "^suit e;");
        edge.valleyFault(6, FOUR + "^suit a;");
        edge.valleyFault(6, FOUR + "^suit");
        edge.valleyFault(6, FOUR + "row;field f of a dries 0;^suit 1");
    }

    private static void lawAndRedeals() {
        edge.says("LAW (0 to 2; 0 without).");
        edge.on(edge.valley(""), 0, "many", 2);
        for (int law = 0; law <= 2; law++) {
            edge.on(edge.valley("law " + law + ";"), law, "many", 2);
        }
        edge.valleyFault(4, "law ^3;");
        edge.valleyFault(4, "law ^9999;");
        edge.says("REDEALS (0 to 9; 0 without).");
        edge.on(edge.valley(""), 0, "many", 3);
        for (int redeals = 0; redeals <= 9; redeals++) {
            edge.on(edge.valley("redeals " + redeals + ";"), redeals, "many", 3);
        }
        edge.valleyFault(4, "redeals ^10;");
        edge.valley("row;stock;law 2;redeals 9;");
        edge.says("5 ranks, law, redeals told already (at that WORD)");
        edge.valleyFault(5, "law 0;^law 0;");
        edge.valleyFault(5, "law 0;suit a;^law");
        edge.valleyFault(5, "redeals 0;^redeals 0;");
        edge.valleyFault(5, "redeals 0;row;^redeals 10;");
    }

    private static void cards() {
        edge.says("A CARD: a SUIT and a RANK (1 to RANKS); each is there once at most; told by numbers it is 6 times "
                + "the SUIT and its RANK less 1.");
        WaterPatience x = edge.valley("ranks 6;" + FOUR + "row a 1 d 6 a 6 b 1 d 1;");
        int[] want = {0, 23, 5, 6, 18};
        for (int k = 0; k < want.length; k++) {
            edge.on(x, want[k], "card", 0, k);
        }
        edge.on(edge.valley("ranks 1;" + FOUR + "row d 1;"), 18, "topOf", 0);
        edge.valleyFault(4, "suit a;row a ^0;");
        edge.valleyFault(4, "suit a;stock a ^0;");
        edge.valleyFault(4, "suit a;stock a ^9999;");
        edge.says("a CARD that is there already (at its NUMBER)");
        edge.valleyFault(5, "suit a;row a 1 a ^1;");
        edge.valleyFault(5, "suit a;row a 1 a ^0001;");
        edge.valleyFault(5, "suit a;row a 1;row a 2 a ^1;");
        edge.valleyFault(5, "suit a;row a 1;stock a ^1;");
        edge.valleyFault(5, "suit a;stock a 1;row a ^1;");
        edge.valleyFault(5, "suit a;stock a 1;stock a ^1;");
        edge.valleyFault(5, "ranks 6;" + FOUR + "row d 6;stock a 1 d ^6;");
        edge.valley("suit a;suit b;row a 1 b 1;");
        WaterPatience all = Edge.full();
        edge.is("all 24", all.many(10) + all.many(7), 24);
    }

    /** Twelve CARDS of the SUITS a, b. */
    private static String twelve() {
        StringBuilder out = new StringBuilder();
        for (int k = 0; k < 12; k++) {
            out.append(k > 0 ? " " : "").append(k < 6 ? "a " : "b ").append(k % 6 + 1);
        }
        return out.toString();
    }

    private static void rows() {
        edge.says("ROWS, at most 6: CARDS, each upon that ahead (the last is on top), 12 at most.");
        String six = Due.times("row;", 6);
        edge.on(edge.valley(six), 6, "many", 4);
        edge.on(edge.valley(""), 0, "many", 4);
        edge.says("6 a fifth suit, a seventh row, field (at that WORD)");
        edge.valleyFault(6, six + "^row;");
        edge.valleyFault(6, six + "^row");
        edge.valleyFault(6, "suit a;" + six + "stock a 1;^row a 1;");
        edge.says("a 13th CARD of a ROW (at its NAME)");
        String row = "ranks 6;" + FOUR + "row;row " + twelve();
        WaterPatience x = edge.valley(row + ";");
        edge.on(x, 12, "length", 1);
        edge.on(x, 0, "card", 1, 0);
        edge.on(x, 11, "topOf", 1);
        edge.valleyFault(6, row + " ^c 1;");
        edge.valleyFault(6, row + " ^c");
        edge.valleyFault(6, row + " ^c 0;");
        edge.valleyFault(6, row + " ^a 1;");
        edge.says("FAULTS, the first along the text (of one TOKEN the least kind)");
        edge.valleyFault(3, row + " ^e 1;");
        edge.valleyFault(2, row + " ^red 1;");
        edge.valleyFault(2, row + " ^abcdefghi 1;");
        edge.valleyFault(2, row + " ^1;");
        edge.valleyFault(1, row + " ^!");
        edge.valley(row + ";row c 1 c 2 c 3 c 4 c 5 c 6 d 1 d 2 d 3 d 4 d 5 d 6;");
    }

    private static void stock() {
        edge.says("STOCK: CARDS, the first is dealt first; told again: behind those told.");
        StringBuilder all = new StringBuilder("ranks 6;" + FOUR + "stock ");
        all.append(twelve()).append(" c 1;row;stock;stock c 2 c 3 c 4 c 5 c 6 d 6 d 5 d 4 d 3 d 2;stock d 1;");
        WaterPatience x = edge.valley(all.toString());
        edge.on(x, 24, "many", 7);
        edge.on(x, 0, "stockAt", 0);
        edge.on(x, 12, "stockAt", 12);
        edge.on(x, 13, "stockAt", 13);
        edge.on(x, 18, "stockAt", 23);
        edge.refusedOn(x, 8, "stockAt", 24);
        edge.on(x, 0, "deal");
        edge.on(edge.valley("suit a;stock;"), 0, "many", 7);
    }

    private static void fields() {
        edge.says("FIELDS, at most 6: of a SUIT, DRIES by so much a DAY (0 to 20), WATER (0 to 99; 10 without), "
                + "HIGH (1 to 99; 99 without).");
        String[] good = {"0", "20", "3 water 0", "3 water 99", "3 high 1", "3 high 99", "3 water 99 high 1"};
        int[][] want = {{0, 10, 99}, {20, 10, 99}, {3, 0, 99}, {3, 99, 99}, {3, 10, 1}, {3, 10, 99}, {3, 99, 1}};
        for (int i = 0; i < good.length; i++) {
            WaterPatience x = edge.valley("suit a;field f of a dries " + good[i] + ";");
            for (int what = 1; what <= 3; what++) {
                edge.on(x, want[i][what - 1], "field", 0, what);
            }
            edge.on(x, 0, "field", 0, 4);
        }
        edge.valleyFault(4, "suit a;field f of a dries ^21;");
        edge.valleyFault(4, "suit a;field f of a dries 0 water ^100;");
        edge.valleyFault(4, "suit a;field f of a dries 0 high ^0;");
        edge.valleyFault(4, "suit a;field f of a dries 0 high ^100;");
        edge.valleyFault(4, "suit a;field f of a dries 0 water 0 high ^0;");
        edge.valleyFault(2, "suit a;field f of a dries 0 high 1 ^water 1;");
        edge.valleyFault(2, "suit a;field f of a dries 0 water 1 ^water 1;");
        edge.valleyFault(2, "suit a;field f of a dries 0 high 1 ^high 1;");
        edge.valleyFault(2, "suit a;field f of a ^water 1;");
        edge.says("6 a fifth suit, a seventh row, field (at that WORD)");
        StringBuilder six = new StringBuilder("suit a;");
        for (char name = 'f'; name < 'l'; name++) {
            six.append("field ").append(name).append(" of a dries 0;");
        }
        WaterPatience x = edge.valley(six.toString());
        edge.on(x, 6, "many", 5);
        edge.valleyFault(6, six + "^field l of a dries 0;");
        edge.valleyFault(6, six + "^field f of a dries 0;");
        edge.valleyFault(6, six + "^field");
        edge.says("`int valley(int n)`: The first n bytes of the tape");
        WaterPatience y = new WaterPatience();
        edge.is("six fields", Due.valley(y, six.toString()), 6);
    }

    private static void numbering() {
        edge.says("All are numbered as they stand");
        WaterPatience x = edge.valley("suit a red;suit b;row b 1;row a 1;field f of b dries 1;field g of a dries 2;");
        edge.on(x, 1, "many", 13);
        edge.on(x, 6, "topOf", 0);
        edge.on(x, 0, "topOf", 1);
        edge.on(x, 1, "field", 0, 1);
        edge.on(x, 2, "field", 1, 1);
        edge.says("what a PART names must be told ahead.");
        edge.valley("suit a;row a 1;suit b;row b 1;field f of b dries 0;stock a 2;");
        edge.valleyFault(3, "suit a;row a 1;row ^b 1;suit b;");
    }

    private static final String[] TOKENS = ("ranks 6 ; suit a red ; suit b ; law 1 ; redeals 2 ; row a 1 b 2 ; stock b 3 ; "
            + "field f of a dries 1 water 2 high 3 ; field g of b dries 0 ;").split(" ");

    private static String joined(int many) {
        return String.join(" ", java.util.Arrays.copyOf(TOKENS, many));
    }

    private static void theEnd() {
        edge.says("(the end: the text's length;");
        for (int many = 0; many <= TOKENS.length; many++) {
            String text = joined(many);
            if (many == 0 || TOKENS[many - 1].equals(";")) {
                edge.valley(text);
                edge.valley(text + " \n");
            } else {
                edge.valleyFault(2, text.length(), text);
                edge.valleyFault(2, text.length() + 3, text + " \n ");
            }
        }
    }

    private static void whatCannotStand() {
        for (int at = 0; at < TOKENS.length; at++) {
            String ahead = joined(at) + (at > 0 ? " " : "");
            edge.says("2 it can't stand there");
            for (String sign : new String[] {"<", ">", "="}) {
                edge.valleyFault(2, ahead + "^" + sign + " ;");
            }
            edge.valleyFault(2, ahead + "^abcdefghi ;");
            edge.valleyFault(2, ahead + "^stop ;");
            edge.says("1 no TOKEN begins so (a NUMBER of 5 digits and more: at its first).");
            edge.valleyFault(1, ahead + "^- ;");
            edge.valleyFault(1, ahead + "^00001 ;");
            edge.valleyFault(1, ahead + "^A ;");
        }
    }

    private static void theFirstAlongTheText() {
        edge.says("FAULTS, the first along the text (of one TOKEN the least kind)");
        edge.valleyFault(4, "ranks ^7;!");
        edge.valleyFault(2, "suit ^red;suit a!");
        edge.valleyFault(3, "suit a;suit ^a;ranks 0;");
        edge.valleyFault(5, "law 0;^law 9;law 8;");
        edge.valleyFault(6, FOUR + "^suit a;suit 1;!");
        edge.valleyFault(1, "ranks ^!7;ranks 7;");
        edge.valleyFault(1, "ranks 3;^99999");
        edge.valleyFault(2, "ranks 3;row;^ranks 7;");
        edge.valleyFault(4, "suit a;row a 1 a ^9 a 1;");
    }

    private static void inPlaceOfThatAhead() {
        edge.says("A VALLEY that is taken is there in place of that ahead; HOME piles, the WASTE are empty, it is DAY 0, "
                + "no FIELD is WITHERED or ROTTEN, there are no SEASONS.");
        WaterPatience x = Edge.rich();
        x.run();
        edge.is("WITHERED ahead", x.many(11), 2);
        edge.is("ROTTEN ahead", x.many(12), 4);
        Due.valley(x, "suit a;field f of a dries 9;field g of a dries 9;field h of a dries 9;");
        int[] want = {4, 1, 0, 0, 0, 3, 0, 0, 0, 0, 0, 0, 0, 0};
        for (int what = 0; what < want.length; what++) {
            edge.on(x, want[what], "many", what);
        }
        edge.on(x, 0, "homeOf", 0);
        edge.refusedOn(x, 8, "topOf", 6);
        edge.refusedOn(x, 8, "live", 0);
        edge.refusedOn(x, 8, "mean", 0, 1);
        edge.on(x, 4, "lived", 0);
        edge.on(x, 5, "read", 0, 0);
        edge.on(x, 1, "back");
        edge.on(x, 2, "many", 1);
        nothingIsLeft();
        WaterPatience same = Edge.rich();
        Due.valley(same, Due.VALLEY);
        WaterPatience fresh = Due.with(Due.VALLEY);
        for (int what = 0; what <= 13; what++) {
            edge.is("many(" + what + ") of the same valley", same.many(what), fresh.many(what));
        }
    }

    /** Neither of a valley that was taken, nor of one with a fault, nor of what was lived on trial. */
    private static void nothingIsLeft() {
        String all = "ranks 6;law 2;redeals 9;suit a red;suit b;row a 1;row a 2;stock a 3;field f of a dries 20;";
        WaterPatience x = new WaterPatience();
        int[] none = {4, 0, 0, 0, 0, 0, 0, 0, 0, 0, 0, 0, 0, 0};
        for (String text : new String[] {all, all + "!", "row;ranks 1;", "law 2;law 2;", all}) {
            Due.valley(x, text);
            if (x.status() == 0) {
                x.day(9);
                Due.seasons(x, "run;deal;day 20;");
                x.mean(0, 1);
            }
            edge.is("no text", Due.valley(x, ""), 0);
            for (int what = 0; what <= 13; what++) {
                edge.on(x, none[what], "many", what);
            }
            x.valley(0);
            edge.is("the same again", Due.valley(x, all), 1);
            edge.on(x, 0, "field", 0, 4);
            edge.on(x, 10, "field", 0, 2);
            edge.on(x, 0, "many", 6);
        }
    }

    private static void promise12() {
        edge.says("Of the latest of these with STATUS 0 or 10, what 0: the FAULT (0 without one), 1: its place "
                + "(NONE without). NONE for others, and ahead of any.");
        WaterPatience x = new WaterPatience();
        faults(x, -1, -1);
        x.valley(1);
        x.seasons(1);
        faults(x, -1, -1);
        x.valley(0);
        faults(x, 0, -1);
        Due.valley(x, "!");
        faults(x, 1, 0);
        x.valley(1);
        x.seasons(-1);
        faults(x, 1, 0);
        Due.seasons(x, "day 0;");
        faults(x, 4, 4);
        x.back();
        x.many(0);
        faults(x, 4, 4);
        x.seasons(0);
        faults(x, 0, -1);
        Due.tape(x, Due.times(" ", 320));
        x.seasons(301);
        faults(x, 0, -1);
        Due.valley(new WaterPatience(), "!");
        faults(x, 0, -1);
        WaterPatience y = new WaterPatience();
        Due.seasons(y, "go");
        faults(y, 2, 0);
    }

    private static void faults(WaterPatience x, int kind, int place) {
        edge.is("fault(0)", x.fault(0), kind);
        edge.is("fault(1)", x.fault(1), place);
        edge.is("fault(2)", x.fault(2), -1);
        edge.is("fault(-1)", x.fault(-1), -1);
        edge.is("fault of the least", x.fault(LEAST), -1);
        edge.is("fault of the most", x.fault(MOST), -1);
    }
}
