import java.io.IOException;
import java.io.UncheckedIOException;
import java.lang.reflect.InvocationTargetException;
import java.lang.reflect.Method;
import java.nio.file.Files;
import java.nio.file.Path;
import java.util.HashMap;
import java.util.Map;
import java.util.Set;
import java.util.TreeSet;
import java.util.function.Supplier;

/**
 * Boundary cases, each on objects of its own: what a call answers, its STATUS, and what stays as it was.
 *
 * <p>Each case stands behind the words of the document that it tests; these are looked for in the document.
 */
final class Edge {
    static final int NONE = WaterPatience.NONE;

    /** Each call's STATUSES other than 0, as its promise tells them. */
    static final String[] STATUSES = {"tray 1 5 6", "write 1 3 4", "read 1 3 4", "pour 1 3 11 6 4", "valley 5 10",
        "seasons 5 10", "many 5", "card 2 8", "length 2", "topOf 2 8", "stockAt 8", "homeOf 2", "field 2 5",
        "copyRow 1 2 3 4", "move 2 9", "deal 9", "day 5 7", "rain 2 5 9", "rule 5", "sow 2", "shuffle 5", "canMove 2",
        "moveAt 8", "runWater 2", "next 2 8", "nextAt 2 8", "over 2 8", "easiest 8", "wilts 2 8", "thirstiest 8",
        "yields 5", "first 5 8", "game 5", "cheat 2", "cheatAt 2 5 8", "wets 2 5", "meanWets 2 5", "bestSuit 5 8",
        "like 1 3 4 5", "likeFirst 1 3 4 5 8", "packTop 2 5 8", "live 5 8", "lived 5 8", "mean 5 8", "mark 7",
        "back 8"};

    private final String document;
    private final Map<String, Method> face = new HashMap<>();
    private final Map<String, Set<Integer>> refusals = new HashMap<>();
    private Supplier<WaterPatience> maker = WaterPatience::new;
    private String words = "";
    private int wrong;
    private int cases;

    Edge() {
        for (Method m : WaterPatience.class.getDeclaredMethods()) {
            face.put(m.getName(), m);
        }
        try {
            document = plain(Files.readString(Path.of("../shared/DOC.md")));
        } catch (IOException e) {
            throw new UncheckedIOException(e);
        }
    }

    private static String plain(String text) {
        return text.replaceAll("\\s+", " ");
    }

    /** The words of the document that the next cases test. */
    void says(String told) {
        words = told;
        if (!document.contains(plain(told))) {
            bad("the document does not say so");
        }
    }

    /** How the objects of the next cases are made. */
    void in(Supplier<WaterPatience> newMaker) {
        maker = newMaker;
    }

    private void bad(String what) {
        wrong++;
        System.out.println("\"" + words + "\": " + what);
    }

    void is(String what, long got, long want) {
        cases++;
        if (got != want) {
            bad(what + " answered " + got + ", due is " + want);
        }
    }

    private static String told(String call, long[] a) {
        StringBuilder out = new StringBuilder(call).append('(');
        for (int i = 0; i < a.length; i++) {
            out.append(i > 0 ? ", " : "").append(a[i]);
        }
        return out.append(')').toString();
    }

    private long call(WaterPatience x, String call, long[] a) {
        Method m = face.get(call);
        Object[] arguments = new Object[a.length];
        for (int i = 0; i < a.length; i++) {
            if (m.getParameterTypes()[i] == long.class) {
                arguments[i] = a[i];
            } else {
                arguments[i] = Math.toIntExact(a[i]);
            }
        }
        try {
            Object gave = m.invoke(x, arguments);
            return gave instanceof Boolean b ? b ? 1 : 0 : ((Number) gave).longValue();
        } catch (InvocationTargetException e) {
            throw new IllegalStateException(told(call, a) + " threw", e.getCause());
        } catch (IllegalAccessException e) {
            throw new IllegalStateException(e);
        }
    }

    /** A call with STATUS 0 on an object, which may be changed by it. */
    void on(WaterPatience x, long answer, String call, long... a) {
        is(told(call, a), call(x, call, a), answer);
        is("status of " + told(call, a), x.status(), 0);
    }

    /** A call with STATUS 0 on a new object: that object. */
    WaterPatience gives(long answer, String call, long... a) {
        WaterPatience x = maker.get();
        on(x, answer, call, a);
        return x;
    }

    /** A call with STATUS 0 that changes nothing at all. */
    void asks(long answer, String call, long... a) {
        same(gives(answer, call, a), maker.get(), told(call, a));
    }

    /** A call with STATUS 0 that changes nothing but the FRACTION. */
    void tells(long top, long bottom, String call, long... a) {
        WaterPatience x = gives(1, call, a);
        WaterPatience untouched = maker.get();
        is("top() behind " + told(call, a), x.top(), top);
        is("bottom() behind " + told(call, a), x.bottom(), bottom);
        is("fault(0) behind " + told(call, a), x.fault(0), untouched.fault(0));
        is("fault(1) behind " + told(call, a), x.fault(1), untouched.fault(1));
        same(Look.withoutFault(x), Look.withoutFault(untouched), told(call, a));
    }

    /**
     * "A call with another STATUS than 0 gives NONE, or false, and changes nothing but STATUS": all that can be seen of
     * the object is compared with another one that was made likewise and did not get the call.
     */
    void refused(int status, String call, long... a) {
        WaterPatience x = maker.get();
        refusedOn(x, status, call, a);
        same(x, maker.get(), told(call, a));
    }

    /** Likewise on an object that is at hand; what stays is not looked at. */
    void refusedOn(WaterPatience x, int status, String call, long... a) {
        refusals.computeIfAbsent(call, k -> new TreeSet<>()).add(status);
        boolean truth = face.get(call).getReturnType() == boolean.class;
        is(told(call, a), call(x, call, a), truth ? 0 : NONE);
        is("status of " + told(call, a), x.status(), status);
    }

    private void same(WaterPatience x, WaterPatience untouched, String call) {
        same(Look.of(x), Look.of(untouched), call);
    }

    private void same(String got, String want, String call) {
        cases++;
        if (!got.equals(want)) {
            bad(call + " changed something:\n" + difference(got, want));
        }
    }

    private static String difference(String got, String want) {
        String[] a = got.split("\n");
        String[] b = want.split("\n");
        for (int i = 0; i < Math.min(a.length, b.length); i++) {
            if (!a[i].equals(b[i])) {
                return "row " + i + " is \"" + a[i] + "\", and was \"" + b[i] + "\"";
            }
        }
        return a.length + " rows, not " + b.length;
    }

    // ---- texts

    /** A valley's text that is taken: the object. */
    WaterPatience valley(String text) {
        return taken(text, "valley");
    }

    /** A text of seasons that is taken. */
    WaterPatience seasons(String text) {
        return taken(text, "seasons");
    }

    private WaterPatience taken(String text, String call) {
        WaterPatience x = maker.get();
        Due.tape(x, text);
        call(x, call, new long[] {text.length()});
        is("status of \"" + text + "\"", x.status(), 0);
        is("fault of \"" + text + "\"", x.fault(0), 0);
        is("place of no fault of \"" + text + "\"", x.fault(1), NONE);
        return x;
    }

    /** A valley's text with a fault: the valley and all else stay, but for the tape, which is empty then. */
    void valleyFault(int kind, int place, String text) {
        fault(kind, place, text, "valley");
    }

    /** Likewise; a ^, which is no part of the text, stands where the fault is. */
    void valleyFault(int kind, String marked) {
        fault(kind, marked.indexOf('^'), marked.replace("^", ""), "valley");
    }

    void seasonsFault(int kind, int place, String text) {
        fault(kind, place, text, "seasons");
    }

    void seasonsFault(int kind, String marked) {
        fault(kind, marked.indexOf('^'), marked.replace("^", ""), "seasons");
    }

    private void fault(int kind, int place, String text, String call) {
        WaterPatience x = maker.get();
        Due.tape(x, text);
        refusedOn(x, 10, call, text.length());
        is("fault of \"" + text + "\"", x.fault(0), kind);
        is("place of the fault of \"" + text + "\"", x.fault(1), place);
        is("top of the fraction", x.top(), maker.get().top());
        is("its bottom", x.bottom(), maker.get().bottom());
        same(Look.withoutFault(x), Look.withoutFault(maker.get()), "\"" + text + "\"");
    }

    // ---- objects

    /** An object with something of everything, but an empty tape: 2 SUITS, 3 ROWS, 3 FIELDS, of which 1 is WITHERED and 2 ROTTEN. */
    static WaterPatience rich() {
        WaterPatience x = Due.with(Due.VALLEY);
        x.mark();
        Due.seasons(x, "loop 2; move 1 2; move 1 7; end; day 1; deal; move 3 3;");
        x.tray(0, 0, 3);
        x.write(0, 0, 5);
        x.write(0, 1, -6);
        x.write(0, 2, 7);
        x.tray(1, 3, 2);
        x.write(1, 0, Long.MIN_VALUE);
        x.write(1, 1, 8);
        x.tray(2, 0, 0);
        x.live(3);
        x.rain(2, 5);
        x.mark();
        x.meanWets(0, 2, 7);
        Due.seasons(x, "any; when stuck; deal; end; day 1; any;");
        x.rule(1);
        return x;
    }

    /** The same with a valley on the tape, 60 bytes. */
    static WaterPatience taped() {
        WaterPatience x = rich();
        Due.tape(x, "suit new red;row new 1;stock new 2;field f of new dries 3;  ");
        return x;
    }

    /** 4 SUITS, a to d, all 24 CARDS, 6 ROWS, the last one empty, 6 FIELDS, f to k. */
    static WaterPatience full() {
        StringBuilder text = new StringBuilder("ranks 6;suit a;suit b red;suit c;suit d red;redeals 9;");
        for (int row = 0; row < 4; row++) {
            text.append("row");
            for (int k = 0; k < 5; k++) {
                int card = (5 * row + k) * 7 % 24;
                text.append(' ').append((char) ('a' + card / 6)).append(' ').append(card % 6 + 1);
            }
            text.append(';');
        }
        text.append("row;row;stock");
        for (int i = 20; i < 24; i++) {
            int card = i * 7 % 24;
            text.append(' ').append((char) ('a' + card / 6)).append(' ').append(card % 6 + 1);
        }
        text.append(';');
        for (int field = 0; field < 6; field++) {
            text.append("field ").append((char) ('f' + field)).append(" of ").append((char) ('a' + field % 4));
            text.append(" dries ").append(field).append(';');
        }
        return Due.with(text.toString());
    }

    /** A valley, made anew each time. */
    static Supplier<WaterPatience> of(String valley) {
        return () -> Due.with(valley);
    }

    static Supplier<WaterPatience> of(String valley, String seasons) {
        return () -> Due.with(valley, seasons);
    }

    /** Ends the test; each of the calls must have been refused with each STATUS that its promise tells, and no other. */
    void end(String... calls) {
        words = "STATUS of a call";
        for (String row : STATUSES) {
            String[] parts = row.split(" ");
            if (!Set.of(calls).contains(parts[0])) {
                continue;
            }
            Set<Integer> want = new TreeSet<>();
            for (int i = 1; i < parts.length; i++) {
                want.add(Integer.parseInt(parts[i]));
            }
            Set<Integer> got = refusals.getOrDefault(parts[0], Set.of());
            if (!want.equals(got)) {
                bad(parts[0] + " was refused with " + got + ", not with " + want);
            }
        }
        System.out.println(wrong == 0 ? cases + " boundary answers are as due" : wrong + " answers are not as due");
        if (wrong != 0) {
            System.exit(1);
        }
    }
}
