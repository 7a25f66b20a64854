import java.util.ArrayList;
import java.util.LinkedHashMap;
import java.util.List;
import java.util.Map;
import java.util.function.Predicate;
import java.util.function.Supplier;
import java.util.function.ToLongFunction;

/**
 * Nothing else is changed: objects of one history, one of them with a call more, are asked the same.
 * Each question is asked of an object of its own, as asking may change it, and an object has 512 calls.
 */
final class Still {
    private static final String FRACTION = "FRACTION";
    private static final String FAULT = "FAULT";
    private static final String TAPE = "tape";
    private static final String[] NAMES = {"a", "b", "c", "d", "e", "f", "ann", "bob", "cy", "di", "zoe", "abcdefgh"};

    private final Check check;
    private final Supplier<LetMe> made;
    private final Map<String, String> before;

    Still(Check check, Supplier<LetMe> made) {
        this.check = check;
        this.made = made;
        before = picture(made);
    }

    /** PEOPLE, a COUPLE, DISHES, debts, a YEAR, two MARKS, three TRAYS, a FAULT: something of all but a tape. */
    static LetMe rich() {
        LetMe x = Check.at("person ann insists 8 quick 3 minds 5;person bob insists 16 quick 6 minds 2 means 40;person cy guest;"
            + "person di insists 16 quick 0;couple ann bob;dish 90 by ann;dish 7;dish 30 by cy;owes bob cy 25;split eaten;law owing;",
            "loop 2;dinner;round;end;lend ann to bob 7;");
        x.pay(1);
        x.round();
        x.comes(3, 0);
        x.round();
        x.gift(0, 1, 5);
        x.mark();
        x.live(77);
        x.order(12, 3);
        x.split(2);
        x.mark();
        x.law(3);
        x.lend(2, 3, 60);
        x.duel(0, 1);
        x.tray(0, 0, 3);
        x.write(0, 0, -128);
        x.write(0, 2, 127);
        x.tray(1, 1, 4);
        for (int i = 0; i < 4; i++) {
            x.write(1, i, 300 * i - 7);
        }
        x.tray(2, 2, 0);
        Check.year(x, "round;dinner by zoe;");
        return x;
    }

    static LetMe richAndFed() {
        LetMe x = rich();
        Check.feed(x, "person zoe;dish 3;  person a;person b;  ");
        return x;
    }

    void refused(String call, ToLongFunction<LetMe> asked, int status) {
        LetMe x = made.get();
        check.refused(x, call, asked.applyAsLong(x), status);
        same(call, with(asked), List.of());
    }

    void denied(String call, Predicate<LetMe> asked, int status) {
        LetMe x = made.get();
        check.denied(x, call, asked.test(x), status);
        same(call, with(y -> asked.test(y) ? 1 : 0), List.of());
    }

    /** A call that only tells. */
    void given(String call, ToLongFunction<LetMe> asked, long want) {
        LetMe x = made.get();
        check.given(x, call, asked.applyAsLong(x), want);
        same(call, with(asked), List.of());
    }

    /** A call that only tells, by the FRACTION. */
    void fraction(String call, Predicate<LetMe> asked, long top, long bottom) {
        LetMe x = made.get();
        check.fraction(x, call, asked.test(x), top, bottom);
        same(call, with(y -> asked.test(y) ? 1 : 0), List.of(FRACTION));
    }

    /** A call that changes some parts, told by how their names begin, and no others. */
    void changes(String call, ToLongFunction<LetMe> asked, String... parts) {
        LetMe x = made.get();
        asked.applyAsLong(x);
        check.due(call + " then status()", x.status(), 0);
        List<String> free = new ArrayList<>();
        Map<String, String> now = picture(with(asked));
        for (String part : parts) {
            boolean isAny = false;
            for (String each : before.keySet()) {
                if (each.startsWith(part)) {
                    free.add(each);
                    isAny |= !before.get(each).equals(now.get(each));
                }
            }
            check.due(call + " changes " + part, isAny, true);
        }
        same(call, now, free);
    }

    /** A call that tells by a FRACTION that is looked at elsewhere. */
    void granted(String call, Predicate<LetMe> asked) {
        LetMe x = made.get();
        check.granted(x, call, asked.test(x));
        same(call, with(y -> asked.test(y) ? 1 : 0), List.of(FRACTION));
    }

    /** A call that has no STATUS, or whose answer was looked at elsewhere. */
    void unchanged(String call, ToLongFunction<LetMe> asked) {
        same(call, with(asked), List.of());
    }

    /** Of a history whose tape is empty. */
    void tableFault(String text, int kind, int place) {
        fault("10 " + text, x -> Check.table(x, text), kind, place);
    }

    void yearFault(String text, int kind, int place) {
        fault("11 " + text, x -> Check.year(x, text), kind, place);
    }

    private void fault(String call, ToLongFunction<LetMe> asked, int kind, int place) {
        LetMe x = made.get();
        check.fault(x, call, (int) asked.applyAsLong(x), kind, place);
        same(call, with(asked), List.of(FAULT));
    }

    private Supplier<LetMe> with(ToLongFunction<LetMe> asked) {
        return () -> {
            LetMe x = made.get();
            asked.applyAsLong(x);
            return x;
        };
    }

    private void same(String call, Supplier<LetMe> touched, List<String> free) {
        same(call, picture(touched), free);
    }

    private void same(String call, Map<String, String> now, List<String> free) {
        for (String part : before.keySet()) {
            if (free.contains(part)) {
                continue;
            }
            boolean isSame = before.get(part).equals(now.get(part));
            check.due(call + ": " + part + " stays, " + (isSame ? "" : before.get(part) + " is now " + now.get(part)), isSame, true);
        }
    }

    private static Map<String, String> picture(Supplier<LetMe> made) {
        Map<String, String> all = new LinkedHashMap<>();
        LetMe x = made.get();
        all.put(FRACTION, x.top() + " by " + x.bottom());
        all.put(FAULT, x.fault(0) + " at " + x.fault(1));
        all.put(TAPE, tape(made));
        facts(all, x);
        all.put("lived", lived(x));
        all.put("names", names(made.get()));
        all.put("YEAR", year(made.get()));
        for (int depth = 1; depth <= 4; depth++) {
            all.put("MARK " + depth + " from the latest", mark(made.get(), depth));
        }
        all.put("room for MARKS", room(made.get()));
        for (int tray = 0; tray < 4; tray++) {
            all.put("TRAY " + tray, tray(made.get(), tray));
            all.put("sort of TRAY " + tray, sort(made.get(), tray));
        }
        return all;
    }

    private static void tell(StringBuilder all, LetMe x, long answer) {
        all.append(answer);
        if (answer == LetMe.NONE) {
            all.append('/').append(x.status());
        }
        all.append(' ');
    }

    /** As table(), part by part. */
    private static void facts(Map<String, String> all, LetMe x) {
        for (int what = 0; what <= 11; what++) {
            all.put("told " + what, "" + x.told(what));
        }
        StringBuilder traits = new StringBuilder();
        StringBuilder paid = new StringBuilder();
        StringBuilder drinks = new StringBuilder();
        StringBuilder owes = new StringBuilder();
        int people = x.told(0);
        for (int i = 0; i < people; i++) {
            for (int what = 0; what <= 4; what++) {
                tell(traits, x, x.person(i, what));
            }
            tell(paid, x, x.person(i, 5));
            tell(drinks, x, x.drinks(i));
            for (int j = 0; j < people; j++) {
                owes.append(i == j ? 0 : x.owes(i, j)).append(' ');
            }
        }
        all.put("traits", traits.toString());
        all.put("paid", paid.toString());
        all.put("drinks", drinks.toString());
        all.put("owes", owes.toString());
        StringBuilder dishes = new StringBuilder();
        int many = x.told(2);
        for (int i = 0; i < many; i++) {
            tell(dishes, x, x.dish(i, 0));
            tell(dishes, x, x.dish(i, 1));
        }
        all.put("dishes", dishes.toString());
    }

    static String table(LetMe x) {
        StringBuilder all = new StringBuilder();
        for (int what = 0; what <= 11; what++) {
            tell(all, x, x.told(what));
        }
        int people = x.told(0);
        for (int i = 0; i < people; i++) {
            for (int what = 0; what <= 5; what++) {
                tell(all, x, x.person(i, what));
            }
            tell(all, x, x.drinks(i));
            for (int j = 0; j < people; j++) {
                if (i != j) {
                    tell(all, x, x.owes(i, j));
                }
            }
        }
        int dishes = x.told(2);
        for (int i = 0; i < dishes; i++) {
            tell(all, x, x.dish(i, 0));
            tell(all, x, x.dish(i, 1));
        }
        return all.toString();
    }

    private static String lived(LetMe x) {
        StringBuilder all = new StringBuilder();
        for (int what = 0; what < 5; what++) {
            tell(all, x, x.lived(what));
        }
        return all.toString();
    }

    private static String tape(Supplier<LetMe> made) {
        LetMe x = made.get();
        int many = x.feed(0, 0, 0, 0, 0);
        if (many == LetMe.NONE) {
            return "full: " + taken(made.get(), 900);
        }
        return many + ": " + taken(made.get(), many - 20);
    }

    private static String taken(LetMe x, int n) {
        StringBuilder all = new StringBuilder();
        boolean isTaken = x.table(n) != LetMe.NONE;
        all.append(x.fault(0)).append(" at ").append(x.fault(1)).append(' ');
        return isTaken ? all.append(table(x)).append(names(x)).toString() : all.toString();
    }

    private static String names(LetMe x) {
        StringBuilder all = new StringBuilder();
        x.year(0);
        for (String name : NAMES) {
            tell(all, x, Check.year(x, "dinner by " + name + ";"));
        }
        return all.toString();
    }

    private static String year(LetMe x) {
        StringBuilder all = new StringBuilder();
        tell(all, x, x.live(5));
        return all.append(lived(x)).append(table(x)).toString();
    }

    private static String mark(LetMe x, int depth) {
        StringBuilder all = new StringBuilder();
        for (int i = 0; i < depth; i++) {
            tell(all, x, x.back());
        }
        all.append(table(x));
        tell(all, x, x.live(6));
        return all.append(table(x)).toString();
    }

    private static String room(LetMe x) {
        StringBuilder all = new StringBuilder();
        for (int i = 0; i < 4; i++) {
            tell(all, x, x.mark());
        }
        return all.toString();
    }

    private static String tray(LetMe x, int tray) {
        StringBuilder all = new StringBuilder();
        for (int place = 0; place <= 60; place++) {
            tell(all, x, x.read(tray, place));
        }
        return all.toString();
    }

    private static String sort(LetMe x, int tray) {
        StringBuilder all = new StringBuilder();
        int other = (tray + 1) % 4;
        for (int sort = 0; sort < 4; sort++) {
            x.tray(other, sort, 0);
            all.append(x.pour(tray, 0, other, 0, 0)).append('/').append(x.status()).append(' ');
        }
        return all.toString();
    }
}
