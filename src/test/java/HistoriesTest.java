import java.lang.reflect.Method;
import java.util.ArrayList;
import java.util.Arrays;
import java.util.Collections;
import java.util.HashMap;
import java.util.List;
import java.util.Map;
import java.util.Random;

/** Promises 1 to 64: long histories at random, each call beside Model. Two arguments: the first history, the one behind the last. */
public final class HistoriesTest {
    private static final Check CHECK = new Check("HistoriesTest");
    private static final Map<String, Method> METHODS = new HashMap<>();
    private static final int MANY = 2_500;
    /** A call, how often it comes, and of what kinds its numbers are: see number(). */
    private static final String[] CALLS = {"tray 3 t 3 places", "write 6 t place long", "read 3 t place", "pour 4 t place t place few", "status 1",
        "top 1", "bottom 1", "fault 1 1", "feed 1 any any any any any", "table 1 any", "year 1 any", "told 6 11", "person 5 p 5", "dish 2 15 1",
        "eaten 3 p", "due 5 p 2", "unfair 3 2", "fairest 2", "dearer 3 p 2 2", "hardest 3 2", "order 6 price who", "strike 3", "split 3 2",
        "law 3 3", "second 4 amount 2", "padded 2 amount", "pay 10 p", "turn 4", "turnBy 4 3", "duel 4 p p", "goes 4 p p", "trio 5 p p p 2",
        "reach 4 set p", "easyOn 3 p", "regret 4 p", "sorest 3", "owes 6 p p", "lend 9 p p much", "balance 4 p", "quits 5 p p", "settle 4",
        "ties 3", "extreme 4 1", "simplify 2", "chain 4 p", "even 4 pence", "evenBy 4 pence p", "comes 7 p 1", "buys 3", "round 7", "drinks 4 p",
        "evenRounds 4", "giftAt 3 price hundredth 60", "ends 3 p p price hundredth", "wasted 3 p p price hundredth", "gift 6 p p much",
        "receipts 5 t few price t", "remembers 4 t", "live 9 seed", "lived 6 4", "mean 3 p seed 20", "mark 4", "back 3"};

    private final Random random;
    private final LetMe x = new LetMe();
    private final Model model = new Model();
    private final StringBuilder told = new StringBuilder();
    private int people;
    /** What is owed in a TABLE is here and there all by this, so that it may be even in some dinners. */
    private int unit = 1;
    private int asked;
    private int wrong;

    private HistoriesTest(int seed) {
        random = new Random(seed);
    }

    public static void main(String[] args) throws ReflectiveOperationException {
        for (Method method : LetMe.class.getDeclaredMethods()) {
            METHODS.put(method.getName(), method);
        }
        List<String> calls = new ArrayList<>();
        for (String call : CALLS) {
            calls.addAll(Collections.nCopies(Integer.parseInt(call.split(" ")[1]), call));
        }
        int first = args.length == 2 ? Integer.parseInt(args[0]) : 0;
        int behind = args.length == 2 ? Integer.parseInt(args[1]) : MANY;
        int most = 0;
        for (int seed = first; seed < behind; seed++) {
            HistoriesTest history = new HistoriesTest(seed);
            history.live(calls);
            most = Math.max(most, history.asked);
            CHECK.due("history " + seed + (history.wrong == 0 ? "" : ":" + history.told), history.wrong, 0);
        }
        CHECK.due("calls of one object, " + most, most > 300 && most <= 512, true);
        CHECK.finish();
    }

    private void live(List<String> calls) throws ReflectiveOperationException {
        if (random.nextInt(20) > 0) {
            text("table", random.nextInt(12) == 0 ? broken(tableText()) : tableText());
        }
        for (int tray = 0; tray < 4; tray++) {
            if (random.nextInt(5) > 0) {
                ask("tray", tray, below(4), number("places"));
            }
        }
        if (people > 1 && random.nextInt(10) == 0) {
            rich();
        }
        int many = 40 + random.nextInt(60);
        for (int i = 0; i < many && wrong == 0; i++) {
            int chance = random.nextInt(100);
            if (asked > 300) {
                break;
            } else if (chance == 0) {
                text("table", random.nextInt(4) == 0 ? broken(tableText()) : tableText());
            } else if (chance < 4 || i == 2) {
                text("year", random.nextInt(4) == 0 ? broken(yearText()) : yearText());
            } else {
                random(calls.get(random.nextInt(calls.size())).split(" "));
            }
        }
        if (wrong == 0) {
            lookThrough();
        }
    }

    /** Near to the 999,999 or there. */
    private void rich() throws ReflectiveOperationException {
        String[] two = two();
        text("year", "loop 99;loop 99;lend " + two[0] + " to " + two[1] + " 999;end;lend " + two[0] + " to " + two[1] + " 7;end;");
        for (int i = 2 + below(4); i > 0; i--) {
            ask("live", i);
            ask("status");
            ask("lived", 0);
        }
    }

    private long ask(String name, long... numbers) throws ReflectiveOperationException {
        Method method = METHODS.get(name);
        Object[] values = new Object[numbers.length];
        for (int i = 0; i < numbers.length; i++) {
            boolean isLong = method.getParameterTypes()[i] == long.class;
            values[i] = isLong ? (Object) numbers[i] : (Object) (int) numbers[i];
        }
        Object answer = method.invoke(x, values);
        asked++;
        long got = answer instanceof Boolean is ? (is ? 1 : 0) : ((Number) answer).longValue();
        long want = model.call(name, numbers);
        told.append("\n  ").append(name).append(Arrays.toString(numbers)).append(" answered ").append(got);
        if (got != want) {
            told.append(", due is ").append(want);
            wrong++;
        }
        return want;
    }

    private void random(String[] call) throws ReflectiveOperationException {
        long[] numbers = new long[call.length - 2];
        for (int i = 0; i < numbers.length; i++) {
            numbers[i] = random.nextInt(40) == 0 ? edge(call[i + 2]) : number(call[i + 2]);
        }
        ask(call[0], numbers);
        ask("status");
        if (List.of("duel", "goes", "trio", "reach", "mean").contains(call[0])) {
            ask("top");
            ask("bottom");
        }
    }

    private int below(int many) {
        return random.nextInt(Math.max(1, many));
    }

    private long number(String kind) {
        switch (kind) {
            case "t":
                return below(4);
            case "places":
                return random.nextInt(4) == 0 ? below(61) : below(12);
            case "place":
                return random.nextInt(4) == 0 ? below(62) : below(6);
            case "few":
                return random.nextInt(8) == 0 ? below(62) : below(5);
            case "long":
                return random.nextInt(3) == 0 ? random.nextLong() >> random.nextInt(64) : random.nextInt(3) == 0 ? below(60) - 30 : below(people);
            case "p":
                return random.nextInt(30) == 0 ? below(8) - 1 : below(people);
            case "who":
                return below(people + 1) - 1;
            case "set":
                return random.nextInt(3) == 0 ? (1 << people) - 1 : below(1 << people);
            case "price":
                return random.nextInt(3) == 0 ? 1 + below(999) : 1 + below(30);
            case "amount":
                return random.nextInt(8) == 0 ? below(11_000) : 1 + below(120);
            case "much":
                return random.nextInt(3) == 0 ? 1 + below(9_999) : unit * (1 + below(3));
            case "pence":
                return random.nextInt(3) == 0 ? unit : random.nextInt(2) == 0 ? 1 + below(99) : 1 + below(5);
            case "hundredth":
                return below(101);
            case "seed":
                return random.nextInt(5) == 0 ? 9_999 - below(30) : below(10_000);
            case "any":
                return random.nextInt(3) == 0 ? below(40) : random.nextInt();
            default:
                return below(Integer.parseInt(kind) + 1);
        }
    }

    private long edge(String kind) {
        if (kind.equals("long")) {
            return random.nextBoolean() ? Long.MIN_VALUE : Long.MAX_VALUE;
        }
        int[] edges = {-1, Integer.MIN_VALUE, Integer.MAX_VALUE, 4, 6, 60, 61, 100, 101, 999, 1_000, 9_999, 10_000, 99_999, 100_000};
        boolean isCount = Character.isDigit(kind.charAt(0));
        return isCount && random.nextBoolean() ? Integer.parseInt(kind) + 1 : edges[random.nextInt(edges.length)];
    }

    private void text(String name, String text) throws ReflectiveOperationException {
        told.append("\n  \"").append(text.replace("\n", "\\n")).append('"');
        // what random calls of feed() have left comes off first
        ask(name, model.onTape());
        for (int i = 0; i < text.length(); i += 20) {
            long[] fours = new long[5];
            for (int k = 0; k < 20; k++) {
                fours[k / 4] = fours[k / 4] << 8 | (i + k < text.length() ? text.charAt(i + k) : 32);
            }
            ask("feed", (int) fours[0], (int) fours[1], (int) fours[2], (int) fours[3], (int) fours[4]);
        }
        ask(name, text.length());
        ask("status");
        ask("fault", 0);
        ask("fault", 1);
        people = model.people();
    }

    private void lookThrough() throws ReflectiveOperationException {
        for (int what = 0; what <= 11; what++) {
            ask("told", what);
        }
        people = model.people();
        for (int i = 0; i < people; i++) {
            ask("person", i, below(5));
            ask("person", i, 5);
            ask("drinks", i);
            ask("eaten", i);
            for (int j = 0; j < people; j++) {
                if (i != j) {
                    ask("owes", i, j);
                }
            }
        }
        long dishes = ask("told", 2);
        for (int i = 0; i < dishes; i++) {
            ask("dish", i, below(2));
        }
        for (int what = 0; what <= 4; what++) {
            ask("lived", what);
            ask("read", below(4), what);
        }
        ask("top");
        ask("bottom");
        ask("fault", 0);
        ask("fault", 1);
    }

    // ---- texts

    private String broken(String text) {
        StringBuilder all = new StringBuilder(text);
        for (int i = below(2); i >= 0 && all.length() > 0; i--) {
            int at = below(all.length());
            switch (below(4)) {
                case 0 -> all.deleteCharAt(at);
                case 1 -> all.setCharAt(at, " ;a09<!".charAt(below(7)));
                case 2 -> all.setLength(at);
                default -> all.insert(at, new String[] {";", " ", "dish ", "person q;", "7", "a", "end;", "law turn;", "round;"}[below(9)]);
            }
        }
        return all.length() > 900 ? text : all.toString();
    }

    private String blank() {
        return random.nextInt(10) > 0 ? " " : random.nextBoolean() ? "\n" : "  \n";
    }

    private String trait(String word, int chance, int most) {
        if (random.nextInt(chance) > 0) {
            return "";
        }
        int number = random.nextInt(4) == 0 ? most : random.nextInt(5) == 0 ? 0 : below(most + 1);
        return blank() + word + blank() + number;
    }

    private String name() {
        return "" + (char) ('a' + below(people));
    }

    private String[] two() {
        int first = below(people);
        int second = (first + 1 + below(people - 1)) % Math.max(1, people);
        return new String[] {"" + (char) ('a' + first), "" + (char) ('a' + second)};
    }

    private String tableText() {
        people = random.nextInt(8) == 0 ? below(7) : 2 + below(5);
        StringBuilder all = new StringBuilder();
        int guests = below(8);
        for (int i = 0; i < people; i++) {
            all.append("person ").append((char) ('a' + i)).append(trait("insists", 2, 16)).append(trait("quick", 2, 20))
                .append(trait("minds", 2, 99)).append(trait("means", 3, 999));
            all.append(guests == 7 || guests > 2 && random.nextInt(4) == 0 ? " guest;" : ";");
        }
        List<String> parts = new ArrayList<>();
        for (int i = below(4); i > 0 && 2 * i <= people; i--) {
            boolean isBack = random.nextBoolean();
            int step = random.nextBoolean() ? 1 : 0;
            int one = (2 * i - 2 + step) % people;
            int other = (2 * i - 1 + step) % people;
            parts.add("couple " + (char) ('a' + (isBack ? other : one)) + blank() + (char) ('a' + (isBack ? one : other)) + ";");
            if (step == 1) {
                break;
            }
        }
        for (int i = random.nextInt(6) == 0 ? 16 : below(9); i > 0; i--) {
            int price = random.nextInt(5) == 0 ? 1 + below(999) : 1 + below(40);
            parts.add("dish " + price + (people > 0 && random.nextInt(5) < 3 ? " by " + name() : "") + ";");
        }
        boolean areAlike = random.nextBoolean();
        unit = 1 + below(9);
        for (int i = people < 2 ? 0 : below(8); i > 0; i--) {
            String[] two = two();
            int much = areAlike ? unit * below(6) : random.nextInt(3) == 0 ? below(10_000) : below(12);
            parts.add("owes " + two[0] + blank() + two[1] + " " + much + ";");
        }
        if (random.nextBoolean()) {
            parts.add("split " + new String[] {"heads", "eaten", "couples"}[below(3)] + ";");
        }
        if (random.nextBoolean()) {
            parts.add("law " + new String[] {"turn", "owing", "quick", "insists"}[below(4)] + ";");
        }
        Collections.shuffle(parts, random);
        for (String part : parts) {
            if (all.length() + part.length() <= 860) {
                all.append(random.nextInt(12) == 0 ? blank() : "").append(part);
            }
        }
        return all.toString();
    }

    private String yearText() {
        StringBuilder all = new StringBuilder();
        if (people > 1 && random.nextInt(6) == 0) {
            String[] two = two();
            all.append("loop 99;loop 99;lend ").append(two[0]).append(" to ").append(two[1]).append(" 999;end;");
            all.append(random.nextBoolean() ? "" : "dinner by " + two[0] + ";").append("end;");
        } else {
            for (int i = below(7); i >= 0; i--) {
                step(all, 0);
            }
        }
        return all.length() > 300 ? "round;dinner;" : all.toString();
    }

    private void step(StringBuilder all, int depth) {
        int kind = below(depth < 3 ? 13 : 9);
        if (people < 2 && kind > 1 && kind < 7) {
            kind = 8;
        }
        String[] two = two();
        switch (kind) {
            case 0, 7 -> all.append("dinner;");
            case 1 -> all.append(people > 0 ? "dinner by " + name() + ";" : "dinner ;");
            case 2, 3 -> all.append("duel ").append(two[0]).append(" with ").append(two[1]).append(';');
            case 4 -> all.append("lend ").append(two[0]).append(" to ").append(two[1]).append(blank()).append(1 + below(999)).append(';');
            case 5, 6 -> all.append("gift ").append(two[0]).append(" to ").append(two[1]).append(' ').append(1 + below(40)).append(';');
            case 8 -> all.append(random.nextInt(8) == 0 ? "stop;" : "round;");
            default -> {
                all.append(kind < 11 ? "loop " + (random.nextInt(4) == 0 ? 99 : 1 + below(6)) : people < 2 ? "loop 3" : when(two));
                all.append(blank()).append(';');
                for (int i = below(4); i > 0; i--) {
                    step(all, depth + 1);
                }
                all.append("end;");
            }
        }
    }

    private String when(String[] two) {
        String sign = "" + "<>=".charAt(below(3));
        return switch (below(3)) {
            case 0 -> "when turn " + two[0];
            case 1 -> "when paid " + two[0] + sign + (random.nextInt(9) == 0 ? below(1_000) : below(6));
            default -> "when owes " + two[0] + blank() + two[1] + blank() + sign + (random.nextInt(3) == 0 ? below(10_000) : below(60));
        };
    }
}
