/** What tests share: counting wrong answers, and putting texts on the tape. */
final class Due {
    static final String VALLEY = "ranks 3;suit hearts red;suit clubs;law 0;redeals 1;"
            + "row clubs 2 hearts 1;row hearts 3 clubs 1;row hearts 2;stock clubs 3;"
            + "field oat of hearts dries 2 water 5 high 20;field rye of clubs dries 3 water 1;"
            + "field bean of clubs dries 0 water 97 high 99;";

    private int wrong;

    void is(String what, long got, long want) {
        if (got != want) {
            wrong++;
            System.out.println(what + " answered " + got + ", due is " + want);
        }
    }

    void yes(String what, boolean got) {
        is(what, got ? 1 : 0, 1);
    }

    /** A call that is refused: what it gave, and its STATUS. */
    void refused(String what, long gave, WaterPatience x, int status) {
        is(what, gave, WaterPatience.NONE);
        is("status of " + what, x.status(), status);
    }

    void refused(String what, boolean gave, WaterPatience x, int status) {
        is(what, gave ? 1 : 0, 0);
        is("status of " + what, x.status(), status);
    }

    /** A call whose answer is due with STATUS 0. */
    void good(String what, long gave, WaterPatience x, long want) {
        is(what, gave, want);
        is("status of " + what, x.status(), 0);
    }

    void good(String what, boolean gave, WaterPatience x) {
        good(what, gave ? 1 : 0, x, 1);
    }

    /** A valley's text with the fault that is due, 0 and NONE for none. */
    void valleyFault(String text, int kind, int place) {
        WaterPatience x = new WaterPatience();
        valley(x, text);
        fault(x, text, kind, place);
    }

    /** A text of seasons, for the valley above. */
    void seasonsFault(String text, int kind, int place) {
        WaterPatience x = with(VALLEY);
        seasons(x, text);
        fault(x, text, kind, place);
    }

    private void fault(WaterPatience x, String text, int kind, int place) {
        is("status of \"" + text + "\"", x.status(), kind == 0 ? 0 : 10);
        is("fault of \"" + text + "\"", x.fault(0), kind);
        is("place of the fault of \"" + text + "\"", x.fault(1), place);
    }

    static void tape(WaterPatience x, String text) {
        for (int at = 0; at < text.length(); at += 20) {
            int[] five = new int[5];
            for (int i = 0; i < 20; i++) {
                int b = at + i < text.length() ? text.charAt(at + i) & 255 : 32;
                five[i / 4] = five[i / 4] << 8 | b;
            }
            x.feed(five[0], five[1], five[2], five[3], five[4]);
        }
    }

    static int valley(WaterPatience x, String text) {
        tape(x, text);
        return x.valley(text.length());
    }

    static int seasons(WaterPatience x, String text) {
        tape(x, text);
        return x.seasons(text.length());
    }

    static WaterPatience with(String valley) {
        WaterPatience x = new WaterPatience();
        valley(x, valley);
        if (x.status() != 0) {
            throw new IllegalStateException("the test's valley has a fault: " + x.fault(0) + " at " + x.fault(1));
        }
        return x;
    }

    static WaterPatience with(String valley, String seasons) {
        WaterPatience x = with(valley);
        seasons(x, seasons);
        if (x.status() != 0) {
            throw new IllegalStateException("the test's seasons have a fault: " + x.fault(0) + " at " + x.fault(1));
        }
        return x;
    }

    static String times(String text, int many) {
        return text.repeat(many);
    }

    void end() {
        System.out.println(wrong == 0 ? "all answers are as due" : wrong + " answers are not as due");
        if (wrong != 0) {
            System.exit(1);
        }
    }
}
