import java.lang.reflect.Method;
import java.lang.reflect.Modifier;
import java.util.ArrayList;
import java.util.Comparator;
import java.util.List;
import java.util.Random;

/** Calls at random, edges and beyond: none throws, a refused one changes nothing, and all is the same again. */
public final class AnyCallsTest {
    private static final Check CHECK = new Check("AnyCallsTest");
    private static final int[] EDGES = {Integer.MIN_VALUE, Integer.MIN_VALUE + 1, -2, -1, 0, 1, 2, 3, 4, 5, 6, 7, 10, 15, 16, 17, 20,
        21, 31, 32, 60, 61, 63, 64, 99, 100, 101, 300, 301, 899, 900, 901, 999, 1000, 9_999, 10_000, 99_999, 100_000, 999_999,
        Integer.MAX_VALUE - 1, Integer.MAX_VALUE};
    private static final String[] TABLES = {"", "person a insists 16 quick 20;person b insists 16;person c;dish 999;dish 7 by b;law owing;",
        "person a guest;person b minds 7 guest;couple b a;dish 5;split couples;",
        "person a means 3;person b;person c;person d guest;person e;person f insists 9;couple a f;couple c d;owes a b 9999;"
            + "dish 999;dish 1;dish 2;dish 3;dish 4;dish 5;dish 6;dish 7;dish 8;dish 9;dish 10;dish 11;dish 12;dish 13;dish 14;dish 15;",
        "person a", "dish 5;person b;?"};
    private static final String[] YEARS = {"", "dinner;round;duel a with b;", "loop 99;loop 99;dinner by a;lend a to b 999;end;end;",
        "loop 99;when owes b a>9000;stop;end;dinner by a;lend a to b 999;end;", "loop 3;gift b to a 5;when turn a;dinner;end;end;", "end;"};

    private AnyCallsTest() {
    }

    public static void main(String[] args) throws Exception {
        List<Method> calls = new ArrayList<>();
        for (Method method : LetMe.class.getDeclaredMethods()) {
            if (Modifier.isPublic(method.getModifiers())) {
                calls.add(method);
            }
        }
        calls.sort(Comparator.comparing(Method::getName));
        CHECK.due("the calls", calls.size(), 63);
        for (int run = 0; run < 1_500; run++) {
            run(calls, run);
        }
        CHECK.finish();
    }

    private static void run(List<Method> calls, int seed) throws Exception {
        Random random = new Random(seed);
        LetMe x = new LetMe();
        LetMe twin = new LetMe();
        for (int i = 0; i < 300; i++) {
            if (random.nextInt(30) == 0) {
                String text = TABLES[random.nextInt(TABLES.length)];
                CHECK.due("table twice", Check.table(x, text), Check.table(twin, text));
            }
            if (random.nextInt(20) == 0) {
                String text = YEARS[random.nextInt(YEARS.length)];
                CHECK.due("year twice", Check.year(x, text), Check.year(twin, text));
            }
            Method call = calls.get(random.nextInt(calls.size()));
            Object[] values = new Object[call.getParameterCount()];
            for (int k = 0; k < values.length; k++) {
                boolean isLong = call.getParameterTypes()[k] == long.class;
                int value = random.nextInt(3) == 0 ? EDGES[random.nextInt(EDGES.length)] : random.nextInt(5);
                values[k] = isLong ? (Object) (long) value : (Object) value;
            }
            check(x, twin, call, values);
        }
    }

    private static void check(LetMe x, LetMe twin, Method call, Object[] values) throws Exception {
        String before = picture(x);
        // looking has a STATUS, too
        CHECK.due("the twin is the same", before.equals(picture(twin)), true);
        Object got = call.invoke(x, values);
        Object again = call.invoke(twin, values);
        CHECK.due(call.getName() + " twice", got.equals(again), true);
        int status = x.status();
        CHECK.due(call.getName() + " status", status >= 0 && status <= 9, true);
        boolean hasNone = "status top bottom feed fault".contains(call.getName());
        if (status != 0 && !hasNone) {
            boolean isRefusal = got instanceof Boolean ? got.equals(false) : ((Number) got).longValue() == LetMe.NONE;
            CHECK.due(call.getName() + " refused", isRefusal, true);
            CHECK.due(call.getName() + " changed nothing", before.equals(picture(x)), true);
        }
    }

    /** What can be asked without a change, but for STATUS. */
    private static String picture(LetMe x) {
        StringBuilder all = new StringBuilder();
        for (int what = 0; what <= 11; what++) {
            all.append(x.told(what)).append(' ');
        }
        for (int i = 0; i < x.told(0); i++) {
            all.append(x.person(i, 5)).append(' ').append(x.drinks(i)).append(' ').append(x.balance(i)).append(' ');
            for (int j = 0; j < x.told(0); j++) {
                all.append(x.owes(i, j)).append(' ');
            }
        }
        for (int tray = 0; tray < 4; tray++) {
            for (int place = 0; place < 4; place++) {
                all.append(x.read(tray, place)).append(' ').append(x.status()).append(' ');
            }
        }
        all.append(x.top()).append(' ').append(x.bottom());
        for (int what = 0; what < 5; what++) {
            all.append(' ').append(x.lived(what));
        }
        return all.toString();
    }
}
