import java.util.ArrayList;
import java.util.Collections;
import java.util.List;
import java.util.Random;

/** Makes texts of valleys and seasons, and spoils them. */
final class TextMaker {
    private static final String[] NAMES = {"a", "b", "oat", "rye", "hearts", "clubs", "abcdefgh", "sto", "rowing",
        "ends", "z", "reds"};
    private static final String[] SCRAPS = {";", "<", "=", ">", "1", "0", "7", "12", "99", "100", "12345", "0003", "red",
        "row", "stock", "field", "of", "dries", "water", "high", "suit", "ranks", "law", "redeals", "day", "move",
        "deal", "run", "any", "when", "home", "stuck", "loop", "end", "stop", "a", "b", "oat", "abcdefghi", "!", "A",
        "\u00ff", "\u0000", "\t", ""};

    private final Random random;

    TextMaker(Random random) {
        this.random = random;
    }

    private int upTo(int n) {
        return random.nextInt(n + 1);
    }

    String valley() {
        int ranks = 1 + random.nextInt(6);
        int suits = random.nextInt(12) == 0 ? 0 : 1 + random.nextInt(4);
        List<String> names = new ArrayList<>(List.of(NAMES));
        Collections.shuffle(names, random);
        StringBuilder out = new StringBuilder();
        if (ranks != 4 || random.nextBoolean()) {
            out.append("ranks ").append(ranks).append(";");
        }
        for (int s = 0; s < suits; s++) {
            out.append("suit ").append(names.get(s)).append(random.nextBoolean() ? " red;" : ";");
        }
        if (random.nextInt(4) > 0) {
            out.append("law ").append(random.nextInt(3)).append(";");
        }
        if (random.nextInt(3) > 0) {
            out.append("redeals ").append(random.nextInt(4)).append(";");
        }
        out.append(cards(names, suits, ranks));
        int fields = suits == 0 ? 0 : upTo(6);
        for (int f = 0; f < fields; f++) {
            out.append("field ").append(names.get(suits + f)).append(" of ").append(names.get(random.nextInt(suits)));
            out.append(" dries ").append(random.nextInt(3) == 0 ? upTo(20) : upTo(2));
            out.append(random.nextBoolean() ? " water " + upTo(99) : "");
            out.append(random.nextBoolean() ? " high " + (1 + upTo(98)) : "");
            out.append(";");
        }
        return out.toString();
    }

    private String cards(List<String> names, int suits, int ranks) {
        List<String> cards = new ArrayList<>();
        for (int s = 0; s < suits; s++) {
            for (int r = 1; r <= ranks; r++) {
                if (random.nextInt(10) > 0) {
                    cards.add(names.get(s) + " " + r);
                }
            }
        }
        Collections.shuffle(cards, random);
        StringBuilder out = new StringBuilder();
        int rows = upTo(6);
        int most = random.nextInt(5) == 0 ? 12 : 5;
        int at = 0;
        for (int row = 0; row < rows; row++) {
            out.append("row");
            for (int k = upTo(most); k > 0 && at < cards.size(); k--) {
                out.append(" ").append(cards.get(at++));
            }
            out.append(";");
        }
        while (at < cards.size() && random.nextInt(6) > 0) {
            out.append("stock");
            for (int k = upTo(9); k > 0 && at < cards.size(); k--) {
                out.append(" ").append(cards.get(at++));
            }
            out.append(";");
        }
        return out.toString();
    }

    String seasons(Model.World w) {
        StringBuilder out = new StringBuilder();
        steps(out, w, random.nextInt(40) == 0 ? 4 : 3, 1 + upTo(6));
        return out.toString();
    }

    private void steps(StringBuilder out, Model.World w, int deeper, int many) {
        for (int i = 0; i < many && out.length() < 220; i++) {
            switch (random.nextInt(deeper > 0 ? 12 : 8)) {
                case 0 -> out.append("day ").append(1 + upTo(3)).append(";");
                case 1, 2 -> out.append("move ").append(upTo(6)).append(" ").append(upTo(7)).append(";");
                case 3 -> out.append("deal;");
                case 4 -> out.append("run;");
                case 5, 6 -> out.append("any;");
                case 7 -> out.append(random.nextInt(6) == 0 ? "stop;" : "any\n;");
                case 8, 9 -> {
                    out.append("loop ").append(1 + (random.nextInt(4) == 0 ? upTo(98) : upTo(5))).append(" ;");
                    steps(out, w, deeper - 1, upTo(3));
                    out.append("end;");
                }
                default -> {
                    out.append("when ").append(test(w)).append(";");
                    steps(out, w, deeper - 1, upTo(3));
                    out.append("end;");
                }
            }
        }
    }

    private String test(Model.World w) {
        String sign = List.of("<", ">", "=").get(random.nextInt(3));
        if (random.nextInt(3) > 0 && !w.suits.isEmpty()) {
            return "home " + w.suits.get(random.nextInt(w.suits.size())) + sign + upTo(random.nextInt(9) == 0 ? 6 : 2);
        }
        if (random.nextInt(3) > 0 && !w.fields.isEmpty()) {
            return "water " + w.fields.get(random.nextInt(w.fields.size())).name + " " + sign + " " + upTo(30);
        }
        return "stuck";
    }

    /** Puts a token in place of another one, puts one in, or cuts or doubles a piece. */
    String spoilt(String text) {
        String out = random.nextBoolean() ? replaced(text) : text;
        for (int i = out.equals(text) ? 1 + upTo(1) : upTo(2) / 2; i > 0; i--) {
            int at = upTo(out.length());
            int to = Math.min(out.length(), at + upTo(8));
            String scrap = SCRAPS[random.nextInt(SCRAPS.length)];
            out = switch (random.nextInt(5)) {
                case 0 -> out.substring(0, at) + out.substring(to);
                case 1 -> out.substring(0, at) + " " + scrap + " " + out.substring(at);
                case 2 -> out.substring(0, to) + out.substring(at);
                case 3 -> out.substring(0, at) + scrap + out.substring(to);
                default -> out + (random.nextBoolean() ? out : scrap);
            };
        }
        return out.length() > 880 ? out.substring(0, 880) : out;
    }

    private String replaced(String text) {
        List<Model.Token> tokens = Model.tokens(text);
        Model.Token old = tokens.get(random.nextInt(tokens.size()));
        // a number mostly comes in place of a number, a word of a word
        for (int i = 0; i < 50; i++) {
            String scrap = SCRAPS[random.nextInt(SCRAPS.length)];
            if (Model.tokens(scrap).get(0).sort() == old.sort() || i > 40) {
                return text.substring(0, old.place()) + scrap + text.substring(old.place() + old.text().length());
            }
        }
        return text;
    }
}
