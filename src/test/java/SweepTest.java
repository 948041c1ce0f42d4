import java.lang.reflect.Method;
import java.lang.reflect.Modifier;
import java.util.ArrayList;
import java.util.Comparator;
import java.util.List;

/** Every call with every couple of numbers at, just below and just above the document's bounds: the class against the model. */
public final class SweepTest {
    private static final int[] BOUNDS = {Integer.MIN_VALUE, -101, -2, -1, 0, 1, 2, 3, 4, 5, 6, 7, 8, 9, 10, 11, 12, 13, 14, 15, 16, 19,
        20, 21, 22, 49, 50, 51, 59, 60, 61, 63, 64, 98, 99, 100, 101, 127, 128, 255, 256, 299, 300, 301, 899, 900, 901, 9949,
        9950, 9951, 9979, 9980, 9981, 9998, 9999, 10000, 65535, 65536, 1 << 30, Integer.MAX_VALUE};
    private static final int[] FEWER = {Integer.MIN_VALUE, -1, 0, 1, 2, 3, 4, 20, 21, 49, 50, 51, 60, 61, 9950, 9951, 9999, 10000,
        Integer.MAX_VALUE};
    private static final int[] FEWEST = {Integer.MIN_VALUE, -1, 0, 1, 2, 3, 4, 5, Integer.MAX_VALUE};
    private static final long[] LONGS = {Long.MIN_VALUE, Integer.MIN_VALUE - 1L, Integer.MIN_VALUE, Short.MIN_VALUE - 1, -129, -128, -1, 0,
        1, 127, 128, 255, 256, Short.MAX_VALUE, Short.MAX_VALUE + 1, Integer.MAX_VALUE, Integer.MAX_VALUE + 1L, Long.MAX_VALUE};

    private static final String[][] SETTINGS = {
        {"", ""},
        {Due.VALLEY, "any;when stuck;deal;end;day 1;any;"},
        {"ranks 6;law 1;redeals 9;suit a;suit b red;suit c;suit d red;row a 1 b 2 c 3 d 4;row d 1 c 1 b 1;row;row a 6 a 5 a 4;"
            + "row d 6;row a 2 b 6 c 6;stock d 5 d 3 d 2 c 5 c 4 c 2;field f of a dries 0;field g of b dries 20 water 99;"
            + "field h of c dries 1 water 0;field i of d dries 3 high 12;field j of a dries 7;field k of a dries 2 high 11;",
            "loop 3;any;deal;end;when home a > 0;run;end;day 2;"},
        {"ranks 1;suit a;row a 1;row;", "run;stop;"},
    };

    /** An object is promised to answer so many calls. */
    private static final int CALLS = 512;

    private String[] setting = SETTINGS[0];
    private WaterPatience x;
    private Model model;
    private int used;
    private int wrong;
    private int cases;

    public static void main(String[] args) throws ReflectiveOperationException {
        List<Method> calls = new ArrayList<>();
        for (Method m : WaterPatience.class.getDeclaredMethods()) {
            if (Modifier.isPublic(m.getModifiers())) {
                calls.add(m);
            }
        }
        calls.sort(Comparator.comparing(Method::getName));
        SweepTest test = new SweepTest();
        for (String[] setting : SETTINGS) {
            test.setting = setting;
            for (Method call : calls) {
                test.make();
                test.sweep(call, new Object[call.getParameterCount()], 0);
            }
        }
        System.out.println(test.wrong == 0 ? test.cases + " calls are as the model has them" : test.wrong + " are not");
        if (test.wrong != 0) {
            System.exit(1);
        }
    }

    /** A new object and a new model, of one setting; trays 0 to 2 are laid, and something is lived and marked. */
    private void make() throws ReflectiveOperationException {
        x = new WaterPatience();
        model = new Model();
        used = 0;
        text("valley", setting[0]);
        call("mark");
        call("tray", 0, 0, 5);
        call("tray", 1, 0, 60);
        call("tray", 2, 3, 2);
        call("write", 0, 1, -1L);
        if (!setting[1].isEmpty()) {
            text("seasons", setting[1]);
            call("live", 5);
        }
        call("deal");
        for (int i = 0; i < 3; i++) {
            call("feed", 0x20202020, 0x20202020, 0x20202020, 0x20202020, 0x20202020);
        }
    }

    private void text(String name, String text) throws ReflectiveOperationException {
        for (int at = 0; at < text.length(); at += 20) {
            Object[] five = new Object[5];
            for (int i = 0; i < 5; i++) {
                int four = 0;
                for (int k = 0; k < 4; k++) {
                    int place = at + 4 * i + k;
                    four = four << 8 | (place < text.length() ? text.charAt(place) : ' ');
                }
                five[i] = four;
            }
            call("feed", five);
        }
        call(name, text.length());
    }

    private void sweep(Method call, Object[] arguments, int from) throws ReflectiveOperationException {
        if (from == arguments.length) {
            // a check asks for the status, top and bottom, too
            if (used > CALLS - 4) {
                make();
            }
            check(call, arguments);
            return;
        }
        if (call.getParameterTypes()[from] == long.class) {
            for (long v : LONGS) {
                arguments[from] = v;
                sweep(call, arguments, from + 1);
            }
            return;
        }
        int[] bounds = arguments.length <= 2 ? BOUNDS : arguments.length == 3 ? FEWER : FEWEST;
        for (int v : bounds) {
            arguments[from] = v;
            sweep(call, arguments, from + 1);
        }
    }

    private void call(String name, Object... arguments) throws ReflectiveOperationException {
        for (Method m : WaterPatience.class.getDeclaredMethods()) {
            if (m.getName().equals(name)) {
                check(m, arguments);
            }
        }
    }

    private void check(Method call, Object[] arguments) throws ReflectiveOperationException {
        cases++;
        used += 4;
        Object gave = call.invoke(x, arguments);
        long got = gave instanceof Boolean b ? b ? 1 : 0 : ((Number) gave).longValue();
        long[] numbers = new long[arguments.length];
        for (int i = 0; i < numbers.length; i++) {
            numbers[i] = ((Number) arguments[i]).longValue();
        }
        long want = model.call(call.getName(), numbers);
        boolean same = got == want && x.status() == model.status && x.top() == model.top && x.bottom() == model.bottom;
        if (!same) {
            wrong++;
            System.out.println(call.getName() + java.util.Arrays.toString(numbers) + " answered " + got + " [" + x.status()
                    + "], due is " + want + " [" + model.status + "]");
        }
    }
}
