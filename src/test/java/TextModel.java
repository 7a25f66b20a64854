import java.util.ArrayList;
import java.util.List;
import java.util.regex.Matcher;
import java.util.regex.Pattern;

/** The grammars of TABLE and YEAR once more: first all TOKENS, then from one to the next until a FAULT is thrown. */
final class TextModel {
    static final List<String> KEPT = List.of("person", "insists", "quick", "minds", "means", "guest", "couple", "dish", "by",
        "owes", "split", "heads", "eaten", "couples", "law", "turn", "owing", "dinner", "duel", "lend", "gift", "round", "with",
        "to", "when", "paid", "loop", "end", "stop");
    private static final Pattern TOKEN = Pattern.compile("[a-z]+|[0-9]+|[;<>=]|[^ \n]");
    private static final List<String> SPLITS = List.of("heads", "eaten", "couples");
    private static final List<String> LAWS = List.of("turn", "owing", "quick", "insists");

    /** 0 without a FAULT. */
    int kind;
    int place = LetMe.NONE;
    int steps;
    final List<String> names;
    final List<int[]> people = new ArrayList<>();
    final List<int[]> dishes = new ArrayList<>();
    final int[][] owes = new int[6][6];
    int couples;
    int split;
    int law;
    private final List<String> tokens = new ArrayList<>();
    private final List<Integer> places = new ArrayList<>();
    private int at;
    private boolean hasSplit;
    private boolean hasLaw;

    private TextModel(String text, List<String> names) {
        this.names = new ArrayList<>(names);
        Matcher all = TOKEN.matcher(text);
        while (all.find()) {
            tokens.add(all.group());
            places.add(all.start());
        }
        tokens.add("");
        places.add(text.length());
    }

    static TextModel ofTable(String text) {
        TextModel model = new TextModel(text, List.of());
        try {
            while (!model.token().isEmpty()) {
                model.part();
                model.word(";");
            }
        } catch (Fault fault) {
            model.hear(fault);
        }
        return model;
    }

    static TextModel ofYear(String text, List<String> names) {
        TextModel model = new TextModel(text, names);
        try {
            while (!model.token().isEmpty()) {
                model.step(0);
            }
        } catch (Fault fault) {
            model.hear(fault);
        }
        return model;
    }

    private void hear(Fault fault) {
        kind = fault.kind;
        place = fault.place;
    }

    private String token() {
        return tokens.get(at);
    }

    private Fault fault(int kind) {
        boolean isNone = token().matches("[0-9]{5,}|[^a-z0-9;<>=]");
        return new Fault(isNone ? 1 : kind, places.get(at));
    }

    private void word(String word) {
        if (!token().equals(word)) {
            throw fault(2);
        }
        at++;
    }

    private int oneOf(List<String> words) {
        int found = words.indexOf(token());
        if (found < 0) {
            throw fault(2);
        }
        at++;
        return found;
    }

    private int number(int least, int most) {
        if (!token().matches("[0-9]{1,4}")) {
            throw fault(2);
        }
        int value = Integer.parseInt(token());
        if (value < least || value > most) {
            throw fault(4);
        }
        at++;
        return value;
    }

    private String name() {
        if (!token().matches("[a-z]{1,8}") || KEPT.contains(token())) {
            throw fault(2);
        }
        return token();
    }

    private int known() {
        int person = names.indexOf(name());
        if (person < 0) {
            throw fault(3);
        }
        return person;
    }

    private int person() {
        int person = known();
        at++;
        return person;
    }

    private int other(int first) {
        int person = known();
        if (person == first) {
            throw fault(5);
        }
        at++;
        return person;
    }

    private void limit(int many, int most) {
        if (many >= most) {
            throw fault(6);
        }
    }

    private void part() {
        switch (token()) {
            case "person" -> newcomer();
            case "couple" -> couple();
            case "dish" -> dish();
            case "owes" -> {
                at++;
                int first = person();
                int second = other(first);
                owes[first][second] = number(0, 9_999);
            }
            case "split" -> {
                once(hasSplit);
                hasSplit = true;
                split = oneOf(SPLITS);
            }
            case "law" -> {
                once(hasLaw);
                hasLaw = true;
                law = oneOf(LAWS);
            }
            default -> throw fault(2);
        }
    }

    private void once(boolean wasTold) {
        if (wasTold) {
            throw fault(5);
        }
        at++;
    }

    private void newcomer() {
        limit(people.size(), 6);
        at++;
        if (names.contains(name())) {
            throw fault(3);
        }
        names.add(token());
        at++;
        int[] row = {trait("insists", 16, 0), trait("quick", 20, 1), trait("minds", 99, 0), trait("means", 999, 999), 0, -1};
        if (token().equals("guest")) {
            row[4] = 1;
            at++;
        }
        people.add(row);
    }

    private int trait(String word, int most, int without) {
        if (!token().equals(word)) {
            return without;
        }
        at++;
        return number(0, most);
    }

    private void couple() {
        limit(couples, 3);
        at++;
        int first = single();
        at++;
        int second = single();
        if (second == first) {
            throw fault(5);
        }
        at++;
        people.get(first)[5] = second;
        people.get(second)[5] = first;
        couples++;
    }

    private int single() {
        int person = known();
        if (people.get(person)[5] >= 0) {
            throw fault(5);
        }
        return person;
    }

    private void dish() {
        limit(dishes.size(), 16);
        at++;
        int price = number(1, 999);
        int by = -1;
        if (token().equals("by")) {
            at++;
            by = person();
        }
        dishes.add(new int[] {price, by});
    }

    private void step(int depth) {
        if (!List.of("dinner", "duel", "lend", "gift", "round", "when", "loop", "stop").contains(token())) {
            throw fault(2);
        }
        limit(steps, 30);
        boolean isBlock = token().equals("when") || token().equals("loop");
        if (isBlock && depth == 3) {
            throw fault(7);
        }
        steps++;
        rest(tokens.get(at++));
        word(";");
        if (isBlock) {
            while (!token().equals("end")) {
                if (token().isEmpty()) {
                    throw fault(2);
                }
                step(depth + 1);
            }
            at++;
            word(";");
        }
    }

    private void rest(String work) {
        switch (work) {
            case "dinner" -> {
                if (token().equals("by")) {
                    at++;
                    person();
                }
            }
            case "duel" -> two("with");
            case "lend", "gift" -> {
                two("to");
                number(1, 999);
            }
            case "loop" -> number(1, 99);
            case "when" -> test();
            default -> {
            }
        }
    }

    private void two(String between) {
        int first = person();
        word(between);
        other(first);
    }

    private void test() {
        int test = oneOf(List.of("paid", "owes", "turn"));
        int first = person();
        if (test == 1) {
            other(first);
        }
        if (test != 2) {
            oneOf(List.of("<", ">", "="));
            number(0, test == 0 ? 999 : 9_999);
        }
    }

    private static final class Fault extends RuntimeException {
        private static final long serialVersionUID = 1L;
        private final int kind;
        private final int place;

        private Fault(int kind, int place) {
            super(null, null, false, false);
            this.kind = kind;
            this.place = place;
        }
    }
}
