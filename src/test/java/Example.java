/** How the class is used. README.md shows this file and what it prints; ReadmeTest compares both. */
public final class Example {
    private static final WaterPatience x = new WaterPatience();

    public static void main(String[] args) {
        // a VALLEY: its text goes onto the tape, from which valley() takes so many bytes
        String valley = "ranks 3; suit hearts red; suit clubs; redeals 1;\n"
                + "row clubs 2 hearts 1; row hearts 3 clubs 1; row hearts 2; stock clubs 3;\n"
                + "field oat of hearts dries 2 water 5 high 20; field rye of clubs dries 3;\n";
        feed(valley);
        show("valley(n)", x.valley(valley.length()), "two fields");

        // what there is, and what can be
        show("length(1)", x.length(1), "cards in row 1");
        show("topOf(1)", x.topOf(1), "its top card, clubs 1: 6 times suit 1, and 1 less 1");
        show("moves()", x.moves(), "moves that can be");
        show("moveAt(1)", x.moveAt(1), "the second of them, from row 1 to row 2");
        show("yields(3, 2)", x.yields(3, 2), "ranks of suits 0 and 1 that two moves bring home");

        // what is done
        show("move(0, 7)", x.move(0, 7), "hearts 1 comes home");
        show("field(0, 2)", x.field(0, 2), "the water of oat: 5 and 1");
        show("day(1)", x.day(1), "fields 0 and 1 live");

        // what is refused changes nothing; STATUS tells why
        show("move(0, 1)", x.move(0, 1), "it can't be");
        show("homeOf(2)", x.homeOf(2), "no such suit");
        show("read(0, 0)", x.read(0, 0), "the tray is missing");

        // SEASONS likewise; a text with a FAULT is not taken, and fault() tells which one and where
        String wrong = "day 2; when home heart > 0; run; end;";
        feed(wrong);
        show("seasons(n)", x.seasons(wrong.length()), "a fault");
        System.out.println("fault " + x.fault(0) + " at " + x.fault(1) + ": " + wrong.substring(x.fault(1)));
        String seasons = "loop 2; any; day 1; end; when home hearts > 0; run; end; deal; stop;";
        feed(seasons);
        show("seasons(n)", x.seasons(seasons.length()), "seven steps");

        // a mark, the seasons lived by a seed, and all taken back
        show("mark()", x.mark(), "one mark");
        show("live(7)", x.live(7), "steps that were done");
        show("lived(2)", x.lived(2), "cards that came home by them");
        show("many(6)", x.many(6), "the day");
        show("back()", x.back(), "no mark is left");
        show("many(6)", x.many(6), "the day");

        // NONE can be an answer, too: STATUS is 0 then
        show("deal()", x.deal(), "clubs 3");
        show("deal()", x.deal(), "a redeal, by which no card is dealt");

        // a FRACTION is told by top() and bottom()
        show("meanWets(0, 0, 20)", x.meanWets(0, 0, 20) ? 1 : 0, "hearts by the packs of seeds 0 to 19");
        System.out.println("in the mean " + x.top() + " by " + x.bottom());
    }

    /** Puts a text onto the empty tape, twenty bytes by a call; the last of them are blanks that nobody takes. */
    private static void feed(String text) {
        for (int at = 0; at < text.length(); at += 20) {
            int[] five = new int[5];
            for (int i = 0; i < 20; i++) {
                int b = at + i < text.length() ? text.charAt(at + i) : ' ';
                five[i / 4] = five[i / 4] << 8 | b;
            }
            x.feed(five[0], five[1], five[2], five[3], five[4]);
        }
    }

    private static void show(String call, long answer, String words) {
        System.out.println(call + " = " + answer + ", status " + x.status() + ": " + words);
    }
}
