import java.nio.file.Files;
import java.nio.file.Path;
import java.util.ArrayList;
import java.util.List;
import java.util.regex.Matcher;
import java.util.regex.Pattern;

/** README.md: its code is the code here, line by line, and each answer is the one that stands behind it. */
public final class ReadmeTest {
    private static final Check CHECK = new Check("ReadmeTest");

    public static void main(String[] args) throws Exception {
        String readme = Files.readString(Path.of("README.md"));
        String here = Files.readString(Path.of("src/test/java/ReadmeTest.java"));
        List<String> code = new ArrayList<>();
        Matcher blocks = Pattern.compile("(?s)```java\n(.*?)```").matcher(readme);
        while (blocks.find()) {
            code.addAll(blocks.group(1).lines().map(String::trim).filter(line -> !line.isEmpty()).toList());
        }
        List<String> lines = here.lines().map(String::trim).toList();
        for (String line : code) {
            CHECK.due("stands here, too: " + line, lines.contains(line), true);
        }
        CHECK.due("lines of code", code.size() > 20, true);
        CHECK.due("for how many calls", readme.contains("at most 512 calls"), true);
        answers();
        CHECK.finish();
    }

    private static void answers() {
        LetMe x = new LetMe();
        int people = x.table(feed(x, "person ann insists 8; person bob insists 4; dish 300;")); // 2
        int paid = x.pay(0); // 1: ann pays for the first time
        int owed = x.owes(1, 0); // 150
        int next = x.turn(); // 1: bob has paid less often
        int steps = x.year(feed(x, "loop 3; dinner by bob; end; when paid bob > 2; gift bob to ann 50; end;")); // 4
        int lived = x.live(7); // 6: a loop counts once, its dinner three times, then when and gift
        int left = x.owes(0, 1); // 400
        CHECK.due("people, paid", 10 * people + paid, 21);
        CHECK.due("owed", owed, 150);
        CHECK.due("next, steps, lived", 100 * next + 10 * steps + lived, 146);
        CHECK.due("left", left, 400);
        int nobody = x.owes(0, 5); // NONE
        int why = x.status(); // 1: there is no person 5
        int padded = x.padded(299); // -1: one less than the bill
        int fine = x.status(); // 0: so it was an answer
        CHECK.due("nobody", nobody, LetMe.NONE);
        CHECK.due("why, padded, fine", 100 * why + 10 * padded + fine, 90);
        int wrong = x.table(feed(x, "person ann; dish 0;")); // NONE
        int kind = x.fault(0); // 4: a number that can't be
        int place = x.fault(1); // 17
        CHECK.due("wrong", wrong, LetMe.NONE);
        CHECK.due("kind, place", 100 * kind + place, 417);
        boolean ends = x.duel(0, 1); // true: let me, no, let me
        long top = x.top(); // 3: ann pays by 3 of 7
        long bottom = x.bottom(); // 7
        CHECK.due("ends", ends, true);
        CHECK.due("top, bottom", 10 * top + bottom, 37);
    }

    static int feed(LetMe x, String text) {
        for (int i = 0; i < text.length(); i += 20) {
            x.feed(four(text, i), four(text, i + 4), four(text, i + 8), four(text, i + 12), four(text, i + 16));
        }
        return text.length();
    }

    static int four(String text, int from) {
        int four = 0;
        for (int i = from; i < from + 4; i++) {
            four = four << 8 | (i < text.length() ? text.charAt(i) : 0);
        }
        return four;
    }
}
