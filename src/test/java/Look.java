/** All that can be seen of an object, written down, so that two objects can be compared. Looking uses the object up. */
final class Look {
    private final WaterPatience x;
    private final StringBuilder seen = new StringBuilder();

    private Look(WaterPatience x) {
        this.x = x;
    }

    /** All but STATUS, and what fault() tells. */
    static String withoutFault(WaterPatience x) {
        Look look = new Look(x);
        look.trays();
        look.valley();
        look.lived();
        look.sorts();
        look.seasons();
        look.tape();
        look.marks();
        return look.seen.toString();
    }

    /** All but STATUS. */
    static String of(WaterPatience x) {
        String fault = "fault " + x.fault(0) + " at " + x.fault(1) + "\n";
        String fraction = "fraction " + x.top() + " by " + x.bottom() + "\n";
        return fault + fraction + withoutFault(x);
    }

    private void put(String what, long answer) {
        seen.append(what).append(' ').append(answer);
        if (answer == WaterPatience.NONE) {
            seen.append(" [").append(x.status()).append(']');
        }
        seen.append('\n');
    }

    private void trays() {
        for (int tray = 0; tray < 4; tray++) {
            int place = 0;
            do {
                put("tray " + tray, x.read(tray, place));
                place++;
            } while (x.status() == 0);
        }
    }

    private void valley() {
        for (int what = 0; what <= 13; what++) {
            put("many " + what, x.many(what));
        }
        for (int row = 0; row < x.many(4); row++) {
            for (int k = 0; k <= x.length(row); k++) {
                put("row " + row, x.card(row, k));
            }
        }
        for (int k = 0; k <= x.many(7); k++) {
            put("stock", x.stockAt(k));
        }
        put("waste", x.topOf(6));
        for (int suit = 0; suit < 4; suit++) {
            put("home", x.homeOf(suit));
        }
        for (int field = 0; field < x.many(5); field++) {
            for (int what = 0; what <= 4; what++) {
                put("field " + field, x.field(field, what));
            }
        }
    }

    private void lived() {
        for (int what = 0; what <= 4; what++) {
            put("lived " + what, x.lived(what));
        }
    }

    /** Which trays are of like sorts, and how the numbers of those that have some are cut. */
    private void sorts() {
        for (int tray = 0; tray < 4; tray++) {
            for (int to = tray + 1; to < 4; to++) {
                x.pour(tray, 0, to, 0, 0);
                put("sorts", x.status());
            }
        }
        for (int tray = 0; tray < 4; tray++) {
            x.write(tray, 0, 0x1020_3040_5060_7080L);
            put("cut", x.read(tray, 0));
        }
    }

    /** The seasons as what they do, and the stock and waste as they are dealt. */
    private void seasons() {
        put("mean", x.mean(5, 3) ? x.top() * 100 + x.bottom() : WaterPatience.NONE);
        put("live", x.live(11));
        brief();
        for (int i = 0; i < 30; i++) {
            put("deal", x.deal());
            if (x.status() != 0) {
                break;
            }
        }
    }

    private void brief() {
        for (int what = 0; what <= 13; what++) {
            put("many " + what, x.many(what));
        }
        for (int place = 0; place <= 6; place++) {
            put("top", x.topOf(place));
        }
        for (int field = 0; field < x.many(5); field++) {
            put("water", x.field(field, 2));
        }
    }

    private void tape() {
        int long1 = x.feed(0x20202020, 0x20202020, 0x20202020, 0x20202020, 0x20202020);
        put("tape", long1);
        put("as a valley", x.valley(Math.max(0, long1)));
        put("fault", x.fault(0));
        put("place", x.fault(1));
        brief();
    }

    private void marks() {
        for (int i = 0; i < 4; i++) {
            put("back", x.back());
            brief();
            put("live", x.live(4));
            put("water", x.field(0, 2));
        }
    }
}
