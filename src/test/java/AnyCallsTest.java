import java.lang.reflect.Method;
import java.lang.reflect.Modifier;
import java.util.ArrayList;
import java.util.Arrays;
import java.util.Comparator;
import java.util.List;
import java.util.Random;
import java.util.function.Supplier;

/** Calls at random, edges and beyond: none throws, a refused one changes nothing, and all is the same again. */
public final class AnyCallsTest {
    private static final Check CHECK = new Check("AnyCallsTest");
    private static final int[] EDGES = {Integer.MIN_VALUE, Integer.MIN_VALUE + 1, -2, -1, 0, 1, 2, 3, 4, 5, 6, 7, 10, 15, 16, 17, 20,
        21, 31, 32, 60, 61, 63, 64, 99, 100, 101, 300, 301, 899, 900, 901, 999, 1000, 9_999, 10_000, 99_999, 100_000, 999_999,
        Integer.MAX_VALUE - 1, Integer.MAX_VALUE};
    private static final String[] TABLES = {"", "person a insists 16 quick 20;person b insists 16;person c;dish 999;dish 7 by b;law owing;",
        "person a guest;person b minds 7 guest;couple b a;dish 5;split couples;",
        "person a means 3;person b;person c;person d guest;person e;person f insists 9;couple a f;couple c d;owes a b 9999;"
            + "dish 999;dish 1;dish 2;dish 3;dish 4;dish 5;dish 6;dish 7;dish 8;dish 9;dish 10;dish 11;dish 12;dish 13;dish 14;dish 15;",
        "person a", "dish 5;person b;?"};
    private static final String[] YEARS = {"", "dinner;round;duel a with b;", "loop 99;loop 99;dinner by a;lend a to b 999;end;end;",
        "loop 99;when owes b a>9000;stop;end;dinner by a;lend a to b 999;end;", "loop 3;gift b to a 5;when turn a;dinner;end;end;", "end;"};

    private static final List<String> HAVE_NO_STATUS = List.of("status", "top", "bottom", "feed", "fault");
    private static final List<String> TELL_FRACTIONS = List.of("duel", "goes", "trio", "reach", "mean");
    private static final List<String> ONLY_TELL = List.of("status", "top", "bottom", "read", "fault", "told", "person", "dish", "eaten", "due",
        "unfair", "fairest", "dearer", "hardest", "second", "padded", "turn", "turnBy", "easyOn", "regret", "sorest", "owes", "balance",
        "settle", "ties", "extreme", "chain", "even", "evenBy", "buys", "drinks", "evenRounds", "giftAt", "ends", "wasted", "remembers",
        "lived");

    private AnyCallsTest() {
    }

    public static void main(String[] args) {
        List<Method> calls = new ArrayList<>();
        for (Method method : LetMe.class.getDeclaredMethods()) {
            if (Modifier.isPublic(method.getModifiers())) {
                calls.add(method);
            }
        }
        calls.sort(Comparator.comparing(Method::getName));
        CHECK.due("the calls", calls.size(), 63);
        for (int run = 0; run < 30_000; run++) {
            run(calls, new Random(run));
        }
        for (int run = 0; run < 4_000; run++) {
            refused(calls, new Random(run));
        }
        CHECK.finish();
    }

    private interface Act {
        Object on(LetMe x);
    }

    /** The same calls on two objects, then one call more on one of them: at most 512 on each. */
    private static void run(List<Method> calls, Random random) {
        LetMe x = new LetMe();
        LetMe twin = new LetMe();
        int many = random.nextInt(60);
        int texts = 0;
        for (int i = 0; i < many; i++) {
            Act act = texts < 6 && random.nextInt(8) == 0 ? text(random) : call(calls.get(random.nextInt(calls.size())), random);
            Object got = act.on(x);
            texts += act instanceof Text ? 1 : 0;
            CHECK.due("the same again", got.equals(act.on(twin)), true);
            int status = x.status();
            CHECK.due("a status", status >= 0 && status <= 9, true);
        }
        Method last = calls.get(random.nextInt(calls.size()));
        Object got = call(last, random).on(x);
        int status = x.status();
        String name = last.getName();
        if (status != 0 && !HAVE_NO_STATUS.contains(name)) {
            boolean isRefusal = got instanceof Boolean ? got.equals(false) : ((Number) got).longValue() == LetMe.NONE;
            CHECK.due(name + " refused", isRefusal, true);
            CHECK.due(name + " changed nothing", picture(x, true).equals(picture(twin, true)), true);
        } else if (ONLY_TELL.contains(name)) {
            CHECK.due(name + " only tells", picture(x, true).equals(picture(twin, true)), true);
        } else if (TELL_FRACTIONS.contains(name)) {
            CHECK.due(name + " tells a FRACTION alone", picture(x, false).equals(picture(twin, false)), true);
        }
    }

    /** As run(), but looked through from end to end, where the call is refused. */
    private static void refused(List<Method> calls, Random random) {
        List<Act> acts = new ArrayList<>();
        int many = random.nextInt(50);
        for (int i = 0; i < many; i++) {
            acts.add(i % 10 == 0 ? text(random) : call(calls.get(random.nextInt(calls.size())), random));
        }
        Supplier<LetMe> made = () -> {
            LetMe x = new LetMe();
            for (Act act : acts) {
                act.on(x);
            }
            return x;
        };
        Method last = calls.get(random.nextInt(calls.size()));
        Act act = call(last, random);
        LetMe x = made.get();
        act.on(x);
        // with 9 the tape and the FAULT are others: TableEdgesTest and YearTextEdgesTest look at that
        boolean isRefused = x.status() != 0 && x.status() != 9 && !HAVE_NO_STATUS.contains(last.getName());
        if (isRefused || ONLY_TELL.contains(last.getName())) {
            new Still(CHECK, made).unchanged(last.getName(), y -> act.on(y).hashCode());
        }
    }

    private record Text(boolean isTable, String text) implements Act {
        @Override
        public Object on(LetMe x) {
            return isTable ? Check.table(x, text) : Check.year(x, text);
        }
    }

    private static Act text(Random random) {
        boolean isTable = random.nextBoolean();
        return new Text(isTable, isTable ? TABLES[random.nextInt(TABLES.length)] : YEARS[random.nextInt(YEARS.length)]);
    }

    private static Act call(Method call, Random random) {
        Object[] values = new Object[call.getParameterCount()];
        for (int k = 0; k < values.length; k++) {
            boolean isLong = call.getParameterTypes()[k] == long.class;
            int value = random.nextInt(3) == 0 ? EDGES[random.nextInt(EDGES.length)] : random.nextInt(5);
            values[k] = isLong ? (Object) (long) value : (Object) value;
        }
        return x -> {
            try {
                return call.invoke(x, values);
            } catch (ReflectiveOperationException thrown) {
                throw new IllegalStateException(call + " with " + Arrays.toString(values) + " has thrown", thrown);
            }
        };
    }

    /** What can be asked without a change, but for STATUS. */
    private static String picture(LetMe x, boolean hasFraction) {
        StringBuilder all = new StringBuilder();
        for (int what = 0; what <= 11; what++) {
            all.append(x.told(what)).append(' ');
        }
        for (int i = 0; i < x.told(0); i++) {
            all.append(x.person(i, 5)).append(' ').append(x.drinks(i)).append(' ').append(x.balance(i)).append(' ');
            for (int j = 0; j < x.told(0); j++) {
                all.append(x.owes(i, j)).append(' ');
            }
        }
        for (int tray = 0; tray < 4; tray++) {
            for (int place = 0; place < 4; place++) {
                all.append(x.read(tray, place)).append(' ').append(x.status()).append(' ');
            }
        }
        if (hasFraction) {
            all.append(x.top()).append(' ').append(x.bottom());
        }
        for (int what = 0; what < 5; what++) {
            all.append(' ').append(x.lived(what));
        }
        return all.toString();
    }
}
