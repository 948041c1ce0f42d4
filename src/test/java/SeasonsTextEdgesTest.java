/** Boundary cases of promise 11, and of the text of seasons: part 4 of the terms. */
public final class SeasonsTextEdgesTest {
    private static final int LEAST = Integer.MIN_VALUE;
    private static final int MOST = Integer.MAX_VALUE;
    private static final Edge edge = new Edge();

    public static void main(String[] args) {
        promise11();
        longestText();
        edge.in(Edge::rich);
        tokens();
        steps();
        numbers();
        compares();
        names();
        mostSteps();
        within();
        ends();
        theEnd();
        whatCannotStand();
        theFirstAlongTheText();
        inPlaceOfThoseAhead();
        edge.end("seasons");
    }

    private static void promise11() {
        edge.says("Likewise the SEASONS: how many STEPS (5: above 300, too; 10).");
        edge.in(() -> {
            WaterPatience x = Edge.rich();
            Due.tape(x, "day 1;loop 2;any;end;stop;  ");
            return x;
        });
        WaterPatience all = edge.gives(4, "seasons", 40);
        edge.refusedOn(all, 5, "seasons", 1);
        edge.is("feed of the empty tape", all.feed(0, 0, 0, 0, 0), 20);
        WaterPatience some = edge.gives(1, "seasons", 6);
        edge.refusedOn(some, 5, "seasons", 1);
        edge.on(some, 1, "live", 0);
        WaterPatience none = edge.gives(0, "seasons", 0);
        edge.refusedOn(none, 5, "seasons", 1);
        edge.refused(5, "seasons", 41);
        edge.refused(5, "seasons", 300);
        edge.refused(5, "seasons", 301);
        edge.refused(5, "seasons", -1);
        edge.refused(5, "seasons", LEAST);
        edge.refused(5, "seasons", MOST);
        WaterPatience kept = edge.gives(3, "many", 5);
        edge.refusedOn(kept, 5, "seasons", 41);
        edge.on(kept, 4, "seasons", 40);
        WaterPatience broken = edge.gives(3, "many", 5);
        edge.refusedOn(broken, 10, "seasons", 5);
        edge.refusedOn(broken, 5, "seasons", 1);
        edge.is("feed of the empty tape", broken.feed(0, 0, 0, 0, 0), 20);
        edge.in(WaterPatience::new);
        edge.gives(0, "seasons", 0);
        edge.refused(5, "seasons", 1);
        edge.refused(5, "seasons", -1);
    }

    private static void longestText() {
        edge.says("SEASONS are a TEXT of at most 300 bytes, of such TOKENS (none at first).");
        edge.in(() -> {
            WaterPatience x = Edge.rich();
            Due.tape(x, Due.times(" ", 292) + "day 20 ;" + Due.times(" ", 600));
            return x;
        });
        WaterPatience x = edge.gives(1, "seasons", 300);
        edge.is("feed of the empty tape", x.feed(0, 0, 0, 0, 0), 20);
        edge.refused(5, "seasons", 301);
        edge.refused(5, "seasons", 900);
        edge.refused(5, "seasons", 901);
        edge.refusedOn(edge.gives(3, "many", 5), 10, "seasons", 299);
        edge.in(Edge::rich);
        edge.seasonsFault(2, 299, Due.times(" ", 292) + "day 20 ");
        edge.seasonsFault(1, 299, Due.times(" ", 292) + "day 20 !");
        edge.seasonsFault(2, 300, Due.times("\n", 292) + "day 20  ");
        WaterPatience loops = edge.seasons(Due.times("loop1;end;", 30));
        edge.on(loops, 30, "live", 0);
    }

    private static void tokens() {
        edge.says("of such TOKENS (none at first)");
        for (int b = 0; b <= 255; b++) {
            boolean blank = b == 10 || b == 32;
            boolean token = b >= 97 && b <= 122 || b >= 48 && b <= 57 || b >= 59 && b <= 62;
            String one = String.valueOf((char) b);
            edge.seasonsFault(blank || token ? 2 : 1, blank ? 1 : 0, one + ";");
            if (b == ';') {
                edge.seasons("day 1;");
            } else if (blank || b >= 48 && b <= 57) {
                edge.seasons("day 1" + one + ";");
            } else {
                edge.seasonsFault(token ? 2 : 1, 5, "day 1" + one + ";");
            }
        }
        edge.seasons("");
        edge.seasons(" \n ");
        edge.seasons("day1;move0 7;move\n6\n0\n;when home hearts<1;end;when water oat=1;end;");
    }

    private static void steps() {
        edge.says("STEP: day NUMBER ; or move NUMBER NUMBER ; or deal ; or run ; or any ; or when TEST ; {STEP} end ; or "
                + "loop NUMBER ; {STEP} end ; or stop ;");
        String[] good = {"day 1;", "move 0 0;", "deal;", "run;", "any;", "when stuck;end;", "loop 1;end;", "stop;"};
        for (String step : good) {
            edge.on(edge.seasons(step), 1, "live", 0);
        }
        for (String word : ValleyTextEdgesTest.WORDS) {
            boolean isStep = " day move deal run any when loop stop ".contains(" " + word + " ");
            if (!isStep) {
                edge.seasonsFault(2, "^" + word + " 1;");
                edge.seasonsFault(2, "day 1;^" + word + ";");
            }
            boolean isTest = " home water stuck ".contains(" " + word + " ");
            if (!isTest) {
                edge.seasonsFault(2, "when ^" + word + ";end;");
            }
        }
        edge.seasonsFault(2, "^days 1;");
        edge.seasonsFault(2, "^hearts;");
        edge.seasonsFault(2, "when ^hearts > 1;end;");
        edge.seasonsFault(2, "deal ^1;");
        edge.seasonsFault(2, "stop ^stop;");
        edge.seasonsFault(2, "when stuck ^= 1;end;");
    }

    private static void numbers() {
        edge.says("day: so many (1 to 20); move: from a PLACE (0 to 6) to one (0 to 7)");
        number("day ", ";", 1, 20);
        number("move ", " 7;", 0, 6);
        number("move 0 ", ";", 0, 7);
        edge.says("when home: how many CARDS of a SUIT are HOME (0 to 6); water: 0 to 99; stuck: no MOVE can be.");
        number("when home hearts < ", ";end;", 0, 6);
        number("when home clubs = ", ";end;", 0, 6);
        number("when water oat > ", ";end;", 0, 99);
        edge.says("loop n (1 to 99): as often.");
        number("loop ", ";end;", 1, 99);
    }

    /** The least and greatest NUMBER that is fine, and the first below and above these. */
    private static void number(String ahead, String behind, int least, int most) {
        edge.seasons(ahead + least + behind);
        edge.seasons(ahead + "000" + least + behind);
        edge.seasons(ahead + most + behind);
        if (least > 0) {
            edge.seasonsFault(4, ahead + "^" + (least - 1) + behind);
        }
        edge.seasonsFault(4, ahead + "^" + (most + 1) + behind);
        edge.seasonsFault(4, ahead + "^9999" + behind);
        edge.seasonsFault(1, ahead + "^0000" + least + behind);
        edge.seasonsFault(1, ahead + "^10000" + behind);
        edge.seasonsFault(2, ahead + "^;");
        edge.seasonsFault(2, ahead + "^hearts;");
        edge.seasonsFault(2, ahead + "^");
    }

    private static void compares() {
        edge.says("COMPARES: < or > or =");
        for (String sign : new String[] {"<", ">", "="}) {
            edge.seasons("when home hearts " + sign + " 0;end;");
            edge.seasons("when water oat" + sign + "0;end;");
            edge.seasonsFault(2, "when home hearts " + sign + " ^= 0;end;");
        }
        edge.seasonsFault(2, "when home hearts ^; 0;end;");
        edge.seasonsFault(2, "when home hearts ^0;end;");
        edge.seasonsFault(1, "when home hearts ^! 0;end;");
    }

    private static void names() {
        edge.says("3 a NAME that is no such one (a SUIT behind home, a FIELD behind water).");
        edge.seasons("when home hearts = 0;end;when home clubs = 0;end;");
        edge.seasons("when water oat = 0;end;when water rye = 0;end;when water bean = 0;end;");
        edge.seasonsFault(3, "when home ^oat = 0;end;");
        edge.seasonsFault(3, "when home ^heart = 0;end;");
        edge.seasonsFault(3, "when home ^heartss = 0;end;");
        edge.seasonsFault(3, "when water ^hearts = 0;end;");
        edge.seasonsFault(3, "when water ^abcdefgh = 0;end;");
        edge.seasonsFault(2, "when home ^abcdefghi = 0;end;");
        edge.seasonsFault(2, "when water ^abcdefghi = 0;end;");
        edge.seasonsFault(2, "when home ^1 = 0;end;");
        for (String word : ValleyTextEdgesTest.WORDS) {
            edge.seasonsFault(2, "when home ^" + word + " = 0;end;");
            edge.seasonsFault(2, "when water ^" + word + " = 0;end;");
        }
        edge.in(WaterPatience::new);
        edge.seasonsFault(3, "when home ^hearts = 0;end;");
        edge.seasonsFault(3, "when water ^oat = 0;end;");
        edge.in(Edge::full);
        edge.seasons("when home d = 0;end;when water k = 0;end;");
        edge.seasonsFault(3, "when home ^e = 0;end;");
        edge.seasonsFault(3, "when water ^l = 0;end;");
        edge.in(Edge::rich);
    }

    private static void mostSteps() {
        edge.says("6 a 31st STEP (at its WORD; end is none).");
        String thirty = Due.times("any;", 30);
        edge.on(edge.seasons(thirty), 30, "live", 0);
        edge.seasonsFault(6, thirty + "^any;");
        edge.seasonsFault(6, thirty + "^any");
        edge.seasonsFault(6, thirty + "^day 0;");
        edge.seasonsFault(2, thirty + "^end;");
        edge.seasonsFault(2, thirty + "^hearts;");
        edge.seasonsFault(2, thirty + "^;");
        edge.seasonsFault(1, thirty + "^!");
        edge.seasons("loop 1;" + Due.times("any;", 29) + "end;");
        edge.seasonsFault(6, "loop 1;" + Due.times("any;", 29) + "^any;end;");
        edge.seasonsFault(6, "loop 1;" + Due.times("any;", 29) + "end;^stop;");
        edge.seasonsFault(6, Due.times("loop1;end;", 28) + "any;any;^loop;");
        edge.seasons(Due.times("any;", 27) + "loop 1;loop 1;loop 1;end;end;end;");
        edge.says("FAULTS, the first along the text (of one TOKEN the least kind)");
        edge.seasonsFault(6, "loop 1;loop 1;loop 1;" + Due.times("any;", 27) + "^loop 1;");
        edge.seasonsFault(7, "loop 1;loop 1;loop 1;" + Due.times("any;", 26) + "^loop 1;");
    }

    private static void within() {
        edge.says("7 a when, loop within three others (at its WORD).");
        String[] opens = {"when stuck;", "loop 2;"};
        for (String a : opens) {
            for (String b : opens) {
                for (String c : opens) {
                    edge.seasons(a + b + c + "day 1;stop;end;end;end;");
                    edge.seasonsFault(7, a + b + c + "^loop 1;end;end;end;end;");
                    edge.seasonsFault(7, a + b + c + "day 1;^when stuck;end;end;end;end;");
                    edge.seasonsFault(7, a + b + c + "^when");
                    edge.seasons(a + b + c + "end;" + c + "end;end;" + b + c + "end;end;end;");
                    edge.seasonsFault(7, a + b + c + "end;" + c + "^loop");
                }
            }
        }
    }

    private static void ends() {
        edge.says("(an end without a beginning; the text's end ahead of an end: 2)");
        edge.seasonsFault(2, "^end;");
        edge.seasonsFault(2, "day 1;^end;");
        edge.seasonsFault(2, "loop 1;end;^end;");
        edge.seasonsFault(2, "when stuck;loop 1;end;end;^end;");
        edge.seasonsFault(2, "loop 1;^");
        edge.seasonsFault(2, "when stuck;^");
        edge.seasonsFault(2, "when stuck;day 1;^");
        edge.seasonsFault(2, "loop 1;loop 1;end;^");
        edge.seasonsFault(2, "loop 1;loop 1;loop 1;end;end; \n^");
        edge.seasonsFault(2, "loop 1;end^");
        edge.seasonsFault(2, "loop 1;end ^end;");
        edge.seasonsFault(2, "loop 1;end ^1;");
        edge.seasonsFault(2, "loop 1 ^end;");
    }

    private static final String[] TOKENS = ("day 20 ; move 6 7 ; deal ; run ; any ; when home hearts < 6 ; when water oat > 99 ; "
            + "loop 99 ; stop ; end ; end ; end ; when stuck ; end ; stop ;").split(" ");

    private static String joined(int many) {
        return String.join(" ", java.util.Arrays.copyOf(TOKENS, many));
    }

    /** How many whens and loops stand open behind so many tokens. */
    private static int open(int many) {
        int open = 0;
        for (int i = 0; i < many; i++) {
            open += TOKENS[i].equals("when") || TOKENS[i].equals("loop") ? 1 : TOKENS[i].equals("end") ? -1 : 0;
        }
        return open;
    }

    private static void theEnd() {
        edge.says("(the end: the text's length;");
        for (int many = 0; many <= TOKENS.length; many++) {
            String text = joined(many);
            boolean whole = many == 0 || TOKENS[many - 1].equals(";");
            if (whole && open(many) == 0) {
                edge.seasons(text);
            } else {
                edge.seasonsFault(2, text.length(), text);
                edge.seasonsFault(2, text.length() + 2, text + "\n ");
            }
        }
    }

    private static void whatCannotStand() {
        for (int at = 0; at < TOKENS.length; at++) {
            String ahead = joined(at) + (at > 0 ? " " : "");
            edge.says("FAULTS: 1, 2 as above");
            edge.seasonsFault(2, ahead + "^red ;");
            edge.seasonsFault(2, ahead + "^abcdefghi ;");
            edge.seasonsFault(1, ahead + "^00001 ;");
            edge.seasonsFault(1, ahead + "^\u00e9 ;");
            if (!TOKENS[at].equals(";")) {
                edge.seasonsFault(2, ahead + "^; ;");
            }
            if (!TOKENS[at].equals("<") && !TOKENS[at].equals(">")) {
                edge.seasonsFault(2, ahead + "^= ;");
            }
        }
    }

    private static void theFirstAlongTheText() {
        edge.says("FAULTS, the first along the text (of one TOKEN the least kind)");
        edge.seasonsFault(4, "day ^0;!");
        edge.seasonsFault(3, "when home ^oat = 7;!");
        edge.seasonsFault(4, "when home hearts = ^7 7");
        edge.seasonsFault(2, "move 0 ^;move 9 9;");
        edge.seasonsFault(4, "move ^7 8;");
        edge.seasonsFault(1, "loop ^! 0;");
    }

    private static void inPlaceOfThoseAhead() {
        edge.says("Likewise the SEASONS: how many STEPS");
        WaterPatience x = edge.seasons("day 7;");
        edge.on(x, 1, "live", 0);
        edge.on(x, 8, "many", 6);
        Due.seasons(x, "day 1;day 1;");
        edge.on(x, 2, "live", 0);
        edge.on(x, 10, "many", 6);
        Due.seasons(x, "day 9;day 0;");
        edge.on(x, 2, "live", 0);
        edge.on(x, 12, "many", 6);
        edge.on(x, 0, "seasons", 0);
        edge.on(x, 0, "live", 0);
        edge.on(x, 12, "many", 6);
        for (String broken : new String[] {"loop 1;", "loop 1;loop 1;loop 1;", Due.times("any;", 31), "loop 1;loop 1;!"}) {
            edge.refusedOn(fed(x, broken), 10, "seasons", broken.length());
            edge.is("one step", Due.seasons(x, "day 1;"), 1);
            edge.refusedOn(fed(x, broken), 10, "seasons", broken.length());
            edge.is("three within", Due.seasons(x, "loop 1;loop 1;loop 1;end;end;end;"), 3);
            edge.refusedOn(fed(x, broken), 10, "seasons", broken.length());
            edge.is("thirty", Due.seasons(x, Due.times("any;", 30)), 30);
            edge.refusedOn(fed(x, broken), 10, "seasons", broken.length());
            edge.refusedOn(fed(x, "end;"), 10, "seasons", 4);
        }
    }

    private static WaterPatience fed(WaterPatience x, String text) {
        Due.tape(x, text);
        return x;
    }
}
