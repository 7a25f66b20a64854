import java.util.ArrayList;
import java.util.List;
import java.util.Random;

/** Promises 10 to 12: texts that are a TOKEN away from good ones, and texts at random, beside TextModel. */
public final class TextsNearTest {
    private static final Check CHECK = new Check("TextsNearTest");
    private static final String SMALL = "person a insists 1 quick 2 minds 3 means 4 guest ; person b ; person c quick 5 ; couple a c ; "
        + "dish 10 by b ; dish 20 ; owes a b 30 ; split eaten ; law owing ;";
    private static final String FULL = "person a ; person b ; person c ; person d ; person e ; person f ; couple a c ; couple d b ; "
        + "couple e f ; " + "dish 7 ; ".repeat(16) + "split heads ; law turn ; owes e f 1 ;";
    private static final String YEAR = "dinner ; dinner by a ; duel a with b ; lend a to b 5 ; gift b to c 6 ; when paid a < 3 ; "
        + "when owes a b > 4 ; when turn b ; round ; end ; end ; end ; loop 2 ; stop ; end ;";
    private static final String FULL_YEAR = "loop 9 ; loop 9 ; loop 9 ; end ; end ; end ; " + "round ; ".repeat(26) + "stop ;";
    private static final String PEOPLE = "person a;person b;person c;";
    private static final String[] STRANGE = {"!", "A", "\t", "\r", "\u0000", "\u000b", "{", "`", "/", ":", "?", "\u00ff", "\u0080"};
    private static final String[] PLAIN = {"a", "b", "c", "d", "f", "g", "abcdefgh", "abcdefghi", "personperson", "0", "1", "16", "17", "20",
        "21", "30", "99", "100", "999", "1000", "9999", "10000", "00000", "0016", "0100", ";", "<", ">", "="};

    private TextsNearTest() {
    }

    public static void main(String[] args) {
        List<String> pool = new ArrayList<>(TextModel.KEPT);
        pool.addAll(List.of(STRANGE));
        pool.addAll(List.of(PLAIN));
        for (String text : List.of(SMALL, FULL)) {
            near(text, pool, TextsNearTest::table);
            shorter(text, TextsNearTest::table);
        }
        for (String text : List.of(YEAR, FULL_YEAR)) {
            near(text, pool, TextsNearTest::year);
            shorter(text, TextsNearTest::year);
        }
        atRandom(pool);
        CHECK.finish();
    }

    private interface Reader {
        void read(String text);
    }

    /** Each TOKEN left out, told twice, another one in its place, another one ahead of it. */
    private static void near(String text, List<String> pool, Reader reader) {
        List<String> tokens = List.of(text.split(" "));
        for (int i = 0; i <= tokens.size(); i++) {
            String before = String.join(" ", tokens.subList(0, i));
            String here = String.join(" ", tokens.subList(i, tokens.size()));
            String behind = i == tokens.size() ? "" : String.join(" ", tokens.subList(i + 1, tokens.size()));
            reader.read(before + " " + behind);
            for (String token : pool) {
                reader.read(before + " " + token + " " + behind);
                reader.read(before + "\n" + token + " " + here);
            }
        }
    }

    /** The text as far as each of its bytes, and with as few blanks as can be. */
    private static void shorter(String text, Reader reader) {
        String tight = text.replaceAll(" ?([;<>=]) ?", "$1").replaceAll("([a-z]) (?=[0-9])", "$1").replaceAll("([0-9]) (?=[a-z])", "$1");
        for (String each : List.of(text, tight)) {
            for (int n = 0; n <= each.length(); n++) {
                reader.read(each.substring(0, n));
            }
        }
    }

    private static void table(String text) {
        if (text.length() > 900) {
            return;
        }
        TextModel model = TextModel.ofTable(text);
        LetMe x = new LetMe();
        int got = Check.table(x, text);
        String call = "10 " + text;
        CHECK.due(call + " status", x.status(), model.kind == 0 ? 0 : 9);
        CHECK.due(call, got, model.kind == 0 ? model.names.size() : LetMe.NONE);
        CHECK.due(call + " fault", x.fault(0), model.kind);
        CHECK.due(call + " place", x.fault(1), model.place);
        if (model.kind != 0) {
            CHECK.due(call + " nobody", x.told(0), 0);
            return;
        }
        int[] wants = {model.names.size(), model.couples, model.dishes.size(), model.split, model.law};
        for (int what = 0; what < wants.length; what++) {
            CHECK.due(call + " told " + what, x.told(what), wants[what]);
        }
        int guests = 0;
        for (int i = 0; i < model.people.size(); i++) {
            int[] row = model.people.get(i);
            guests |= row[4] << i;
            for (int what = 0; what < 4; what++) {
                CHECK.due(call + " person " + i + " what " + what, x.person(i, what), row[what]);
            }
            CHECK.due(call + " couple of " + i, x.person(i, 4), row[5]);
            for (int j = 0; j < model.people.size(); j++) {
                CHECK.due(call + " owes " + i + " " + j, x.owes(i, j), i == j ? LetMe.NONE : model.owes[i][j]);
            }
        }
        CHECK.due(call + " guests", x.told(10), guests);
        CHECK.due(call + " in", x.told(11), (1 << model.people.size()) - 1);
        for (int i = 0; i < model.dishes.size(); i++) {
            CHECK.due(call + " price " + i, x.dish(i, 0), model.dishes.get(i)[0]);
            CHECK.due(call + " by " + i, x.dish(i, 1), model.dishes.get(i)[1]);
        }
    }

    private static void year(String text) {
        LetMe x = Check.at(PEOPLE);
        int got = Check.year(x, text);
        String call = "11 " + text;
        if (text.length() > 300) {
            CHECK.refused(x, call, got, 1);
            return;
        }
        TextModel model = TextModel.ofYear(text, List.of("a", "b", "c"));
        CHECK.due(call + " status", x.status(), model.kind == 0 ? 0 : 9);
        CHECK.due(call, got, model.kind == 0 ? model.steps : LetMe.NONE);
        CHECK.due(call + " fault", x.fault(0), model.kind);
        CHECK.due(call + " place", x.fault(1), model.place);
        CHECK.due(call + " is there", x.live(1) >= 0, model.kind == 0);
    }

    /** Good texts with one to three TOKENS changed, and here and there without the blanks between them. */
    private static void atRandom(List<String> pool) {
        Random random = new Random(7);
        String[] all = {SMALL, FULL, YEAR, FULL_YEAR};
        for (int run = 0; run < 20_000; run++) {
            int which = run % all.length;
            List<String> tokens = new ArrayList<>(List.of(all[which].split(" ")));
            for (int i = random.nextInt(3); i >= 0 && tokens.size() > 1; i--) {
                int at = random.nextInt(tokens.size());
                switch (random.nextInt(4)) {
                    case 0 -> tokens.remove(at);
                    case 1 -> tokens.add(at, pool.get(random.nextInt(pool.size())));
                    case 2 -> tokens.set(at, pool.get(random.nextInt(pool.size())));
                    default -> tokens.set(at, tokens.get(random.nextInt(tokens.size())));
                }
            }
            StringBuilder text = new StringBuilder();
            for (String token : tokens) {
                text.append(token).append(random.nextInt(12) == 0 ? "" : random.nextInt(12) == 0 ? " \n" : " ");
            }
            if (which < 2) {
                table(text.toString());
            } else {
                year(text.toString());
            }
        }
    }
}
