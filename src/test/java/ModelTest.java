import java.lang.reflect.Method;
import java.lang.reflect.Modifier;
import java.util.ArrayList;
import java.util.Comparator;
import java.util.List;
import java.util.Map;
import java.util.Random;

/** Random runs of calls, the class against the model: every answer, and the status behind it. */
public final class ModelTest {
    private static final int RUNS = 600;
    private static final int CALLS = 500;

    private final Random random;
    private final WaterPatience x = new WaterPatience();
    private final Model model = new Model();
    private final List<String> done = new ArrayList<>();
    private final TextMaker maker;

    private ModelTest(long seed) {
        random = new Random(seed);
        maker = new TextMaker(random);
    }

    public static void main(String[] args) throws ReflectiveOperationException {
        List<Method> calls = new ArrayList<>();
        for (Method m : WaterPatience.class.getDeclaredMethods()) {
            if (Modifier.isPublic(m.getModifiers())) {
                calls.add(m);
            }
        }
        calls.sort(Comparator.comparing(Method::getName));
        int runs = args.length > 0 ? Integer.parseInt(args[0]) : RUNS;
        for (int seed = 0; seed < runs; seed++) {
            ModelTest test = new ModelTest(seed);
            if (!test.run(calls)) {
                System.out.println("run " + seed + " is not as the model has it");
                System.exit(1);
            }
        }
        System.out.println(runs + " runs are as the model has them");
    }

    private boolean run(List<Method> calls) throws ReflectiveOperationException {
        while (done.size() < CALLS) {
            int dice = random.nextInt(100);
            boolean same;
            if (done.isEmpty() && dice < 90 || dice < 2) {
                same = text("valley", random.nextInt(4) > 0 ? maker.valley() : maker.spoilt(maker.valley()));
            } else if (dice < 5) {
                String text = maker.seasons(model.w);
                same = text("seasons", random.nextInt(3) > 0 ? text : maker.spoilt(text));
            } else {
                same = call(calls.get(random.nextInt(calls.size())));
            }
            if (!same) {
                int from = Math.max(0, done.size() - 60);
                done.subList(from, done.size()).forEach(System.out::println);
                return false;
            }
        }
        return true;
    }

    /** A call with random arguments; texts are fed and taken above, and seldom is something else on the tape. */
    private boolean call(Method m) throws ReflectiveOperationException {
        boolean ofTexts = m.getName().equals("valley") || m.getName().equals("seasons");
        if (ofTexts || m.getName().equals("feed") && random.nextInt(30) > 0) {
            return true;
        }
        return call(m, arguments(m));
    }

    /** Feeds a text and takes it, or sometimes a piece of it or more than it. */
    private boolean text(String name, String text) throws ReflectiveOperationException {
        Method feed = WaterPatience.class.getMethod("feed", int.class, int.class, int.class, int.class, int.class);
        int before = model.tape.length();
        boolean same = true;
        for (int at = 0; at < text.length(); at += 20) {
            Object[] five = new Object[5];
            for (int i = 0; i < 5; i++) {
                int four = 0;
                for (int k = 0; k < 4; k++) {
                    int place = at + 4 * i + k;
                    four = four << 8 | (place < text.length() ? text.charAt(place) : ' ');
                }
                five[i] = four;
            }
            same &= call(feed, five);
        }
        done.add("// \"" + text.replace("\n", "\\n") + "\"");
        int n = before + text.length();
        if (random.nextInt(12) == 0) {
            n = random.nextInt(3) == 0 ? random.nextInt(1000) - 20 : random.nextInt(text.length() + 1);
        }
        return same && call(WaterPatience.class.getMethod(name, int.class), new Object[] {n});
    }

    private boolean call(Method m, Object[] arguments) throws ReflectiveOperationException {
        Object gave = m.invoke(x, arguments);
        long got = gave instanceof Boolean b ? b ? 1 : 0 : ((Number) gave).longValue();
        long[] numbers = new long[arguments.length];
        StringBuilder row = new StringBuilder(m.getName()).append("(");
        for (int i = 0; i < numbers.length; i++) {
            numbers[i] = ((Number) arguments[i]).longValue();
            row.append(i > 0 ? ", " : "").append(numbers[i]);
        }
        long want = model.call(m.getName(), numbers);
        row.append(") = ").append(got).append(" [").append(x.status()).append("]");
        boolean same = got == want && x.status() == model.status;
        if (!same) {
            row.append(", the model: ").append(want).append(" [").append(model.status).append("]");
        }
        done.add(row.toString());
        return same;
    }

    /** What each argument of a call is, a letter each; the letters are told in within(). */
    private static final Map<String, String> ARGUMENTS = Map.ofEntries(
            Map.entry("tray", "ton"), Map.entry("write", "tk"), Map.entry("read", "tk"),
            Map.entry("pour", "tktkk"), Map.entry("feed", "xxxxx"), Map.entry("fault", "2"), Map.entry("many", "w"),
            Map.entry("card", "rk"), Map.entry("length", "r"), Map.entry("topOf", "p"), Map.entry("stockAt", "k"),
            Map.entry("homeOf", "s"), Map.entry("field", "f5"), Map.entry("copyRow", "rt"), Map.entry("move", "pq"),
            Map.entry("day", "d"), Map.entry("rain", "fu"), Map.entry("rule", "3"), Map.entry("sow", "fs"),
            Map.entry("shuffle", "e"), Map.entry("canMove", "pq"), Map.entry("moveAt", "k"),
            Map.entry("runWater", "s"), Map.entry("next", "s"), Map.entry("nextAt", "s"), Map.entry("over", "s"),
            Map.entry("wilts", "f"), Map.entry("yields", "SN"), Map.entry("first", "SN"), Map.entry("game", "SN"),
            Map.entry("cheat", "s"), Map.entry("cheatAt", "s2"), Map.entry("wets", "se"),
            Map.entry("meanWets", "sem"), Map.entry("bestSuit", "em"), Map.entry("like", "tem"),
            Map.entry("likeFirst", "tem"), Map.entry("packTop", "re"), Map.entry("live", "e"),
            Map.entry("lived", "5"), Map.entry("mean", "em"));
    private static final int[] WILD = {Integer.MIN_VALUE, Integer.MAX_VALUE, -1, 10000, 9999, 100, 1 << 30, 61, 60, 300};

    private Object[] arguments(Method m) {
        Class<?>[] types = m.getParameterTypes();
        Object[] all = new Object[types.length];
        for (int i = 0; i < all.length; i++) {
            if (types[i] == long.class) {
                all[i] = random.nextBoolean() ? random.nextLong() : (long) random.nextInt(9);
            } else {
                all[i] = argument(ARGUMENTS.get(m.getName()).charAt(i));
            }
        }
        return all;
    }

    private int argument(char sort) {
        int dice = random.nextInt(100);
        if (dice < 2) {
            return WILD[random.nextInt(WILD.length)];
        }
        return dice < 8 ? random.nextInt(12) - 2 : within(sort);
    }

    private int within(char sort) {
        Model.World w = model.w;
        return switch (sort) {
            case 't', 'o' -> random.nextInt(random.nextInt(3) == 0 ? 4 : 2);
            case 'n' -> random.nextInt(9);
            case 'k' -> random.nextInt(6);
            case 'x' -> random.nextInt();
            case '2' -> random.nextInt(2);
            case '3' -> random.nextInt(3);
            case '5' -> random.nextInt(5);
            case 'w' -> random.nextInt(14);
            case 'd' -> 1 + random.nextInt(random.nextInt(9) == 0 ? 99 : 2);
            case 'u' -> 1 + random.nextInt(random.nextInt(9) == 0 ? 99 : 6);
            case 'r' -> random.nextInt(Math.max(1, w.rows.size()));
            case 's' -> random.nextInt(Math.max(1, w.suits.size()));
            case 'f' -> random.nextInt(Math.max(1, w.fields.size()));
            case 'S' -> random.nextInt(1 << w.suits.size());
            case 'N' -> 1 + random.nextInt(3);
            case 'e' -> random.nextInt(9) == 0 ? 9980 + random.nextInt(20) : random.nextInt(9990);
            case 'm' -> 1 + random.nextInt(random.nextInt(9) == 0 ? 51 : 6);
            case 'p' -> placeOf(6);
            case 'q' -> placeOf(7);
            default -> throw new IllegalStateException("no such sort of argument: " + sort);
        };
    }

    /** The waste or home, or a row that there is; of a move that can be, sometimes. */
    private int placeOf(int other) {
        List<Model.Move> moves = model.w.moves();
        if (!moves.isEmpty() && random.nextInt(3) > 0) {
            Model.Move m = moves.get(done.size() % moves.size());
            return other == 6 ? m.from() : m.to();
        }
        int place = random.nextInt(model.w.rows.size() + 1);
        return place == model.w.rows.size() ? other : place;
    }
}
