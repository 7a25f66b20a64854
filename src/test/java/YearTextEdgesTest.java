import java.util.List;

/** The bounds that the document names for promises 11 and 12: a YEAR as a text, its FAULTS, what fault() tells. */
public final class YearTextEdgesTest {
    private static final Check CHECK = new Check("YearTextEdgesTest");
    private static final String TWO = "person a;person b;";
    private static final String THIRTY = "round;".repeat(30);

    public static void main(String[] args) {
        threeHundredBytes();
        aboveThreeHundred();
        firstBytesOfTheTape();
        anEmptyText();
        thirtySteps();
        threeWithinEachOther();
        endsAndBeginnings();
        theEndOfTheText();
        lent();
        loops();
        paid();
        owed();
        compares();
        noTokenBeginsSo();
        cannotStand();
        names();
        itself();
        keptWords();
        longWords();
        theFirstAlongTheText();
        theLeastKind();
        aFaultLeavesTheOldOne();
        aNewYear();
        whatFaultTells();
        faultHasNoOthers();
        CHECK.finish();
    }

    private static void fault(String text, int kind, int place) {
        LetMe x = Check.at(TWO);
        CHECK.fault(x, "11 " + text, Check.year(x, text), kind, place);
        CHECK.refused(x, "60 no year of " + text, x.live(0), 6);
    }

    private static LetMe good(String text, int steps) {
        LetMe x = Check.at(TWO);
        CHECK.given(x, "11 " + text, Check.year(x, text), steps);
        CHECK.due("12 without", x.fault(0), 0);
        CHECK.due("12 without", x.fault(1), LetMe.NONE);
        return x;
    }

    /** "A YEAR's of at most 300." */
    private static void threeHundredBytes() {
        good(" ".repeat(294) + "round;", 1);
        good("round;" + "\n".repeat(294), 1);
        good(" ".repeat(293) + "round;", 1);
        good("duel a with b ;".repeat(20), 20);
        fault(" ".repeat(295) + "round", 2, 300);
        fault(" ".repeat(299) + "!", 1, 299);
    }

    /** "1: above 300, too": the tape stays. */
    private static void aboveThreeHundred() {
        Still still = new Still(CHECK, YearTextEdgesTest::fed);
        for (int n : new int[] {301, 302, 400, 401, 420, Integer.MAX_VALUE, -1, Integer.MIN_VALUE}) {
            still.refused("11 n " + n, x -> x.year(n), 1);
        }
        LetMe x = fed();
        CHECK.refused(x, "11 301", x.year(301), 1);
        CHECK.given(x, "11 300 of more", x.year(300), 2);
        CHECK.refused(x, "11 the tape is empty", x.year(1), 1);
        LetMe y = fed();
        CHECK.refused(y, "11 301", y.year(301), 1);
        CHECK.given(y, "10 301 for a TABLE", y.table(0), 0);
    }

    private static LetMe fed() {
        LetMe x = Still.rich();
        Check.feed(x, "dinner by cy;round;" + " ".repeat(381));
        return x;
    }

    private static void firstBytesOfTheTape() {
        String text = "round;stop;dinner;";
        int[] ends = {0, 6, 11, 18};
        for (int i = 0; i < ends.length; i++) {
            LetMe x = Check.at(TWO);
            Check.feed(x, text);
            CHECK.given(x, "11 the first " + ends[i], x.year(ends[i]), i);
            CHECK.refused(x, "11 the tape is empty", x.year(1), 1);
            CHECK.due("11 the tape is empty", x.feed(0, 0, 0, 0, 0), 20);
        }
        LetMe y = Check.at(TWO);
        Check.feed(y, text);
        CHECK.fault(y, "11 the first 17", y.year(17), 2, 17);
        CHECK.due("11 the tape is empty with 9, too", y.feed(0, 0, 0, 0, 0), 20);
    }

    /** "{STEP}": any number of times. */
    private static void anEmptyText() {
        for (String text : List.of("", " ", "\n\n ")) {
            LetMe x = good(text, 0);
            CHECK.given(x, "60 no STEPS", x.live(0), 0);
        }
        LetMe x = Still.rich();
        CHECK.given(x, "11 in place of the one ahead", x.year(0), 0);
        CHECK.given(x, "60 in place of the one ahead", x.live(0), 0);
        LetMe y = new LetMe();
        CHECK.given(y, "11 of a TABLE of nobody", Check.year(y, "dinner;round;loop 9;stop;end;"), 4);
        CHECK.fault(y, "11 nobody has a NAME", Check.year(y, "when turn a;end;"), 3, 10);
    }

    /** "30 STEPS"; "6 a 31st STEP (at its WORD; end is none)". */
    private static void thirtySteps() {
        good(THIRTY, 30);
        good("round;".repeat(29) + "loop 9;end;", 30);
        good("loop 1;when turn a;loop 1;end;end;" + "round;".repeat(27) + "end;", 30);
        good("loop 1;end;".repeat(20) + "stop;".repeat(10), 30);
        Still still = new Still(CHECK, Still::rich);
        for (String step : List.of("dinner", "duel", "lend", "gift", "round", "when", "loop", "stop")) {
            still.yearFault(THIRTY + step + ";", 6, 180);
            fault(THIRTY + step, 6, 180);
        }
        fault("loop 1;end;".repeat(20) + "stop;".repeat(10) + "round;", 6, 270);
        fault("loop 9;" + "round;".repeat(29) + "end;stop;", 6, 185);
        fault(THIRTY + "end;", 2, 180);
    }

    /** "Three when or loop within each other"; "7 a when, loop within three others (at its WORD)". */
    private static void threeWithinEachOther() {
        good("loop 1;loop 1;loop 1;round;end;end;end;", 4);
        good("when turn a;when turn a;when turn a;stop;end;end;end;", 4);
        good("loop 1;loop 1;loop 1;end;loop 1;end;end;loop 1;loop 1;end;end;end;loop 1;loop 1;loop 1;end;end;end;", 9);
        Still still = new Still(CHECK, Still::rich);
        still.yearFault("loop 1;loop 1;loop 1;loop 1;end;end;end;end;", 7, 21);
        still.yearFault("loop 1;loop 1;loop 1;when turn ann;end;end;end;end;", 7, 21);
        still.yearFault("when turn ann;when turn ann;when turn ann;when", 7, 42);
        still.yearFault("when turn ann;when turn ann;when turn ann;loop", 7, 42);
        fault("loop 1;loop 1;loop 1;end;loop 1;round;loop 1;", 7, 38);
        fault("loop 1;loop 1;loop 1;loop !", 7, 21);
    }

    /** "An end without a beginning; the text's end ahead of an end: 2." */
    private static void endsAndBeginnings() {
        Still still = new Still(CHECK, Still::rich);
        still.yearFault("end;", 2, 0);
        still.yearFault("round;end;", 2, 6);
        still.yearFault("loop 2;end;end;", 2, 11);
        still.yearFault("loop 2;", 2, 7);
        still.yearFault("loop 2;round;", 2, 13);
        still.yearFault("loop 2;when turn ann;end;", 2, 25);
        still.yearFault("when turn ann;", 2, 14);
        still.yearFault("when turn ann; \n", 2, 16);
        fault("loop 2;loop 2;loop 2;end;end;", 2, 29);
        fault("end", 2, 0);
        fault("loop 2;end", 2, 10);
        fault("loop 2;end round;", 2, 11);
    }

    /** Behind each TOKEN, but for those that end a STEP outside of all others. */
    private static void theEndOfTheText() {
        String[] tokens = ("dinner ; dinner by a ; duel a with b ; lend a to b 5 ; gift b to a 6 ; when paid a < 3 ; when owes a b > 4 ; "
            + "when turn b ; round ; end ; end ; end ; loop 2 ; stop ; end ; round ;").split(" ");
        StringBuilder text = new StringBuilder();
        int open = 0;
        for (String token : tokens) {
            text.append(token);
            open += token.equals("when") || token.equals("loop") ? 1 : token.equals("end") ? -1 : 0;
            for (String blanks : List.of("", " ", "\n\n")) {
                String each = text + blanks;
                if (token.equals(";") && open == 0) {
                    LetMe x = Check.at(TWO);
                    CHECK.due("11 good: " + each, Check.year(x, each) > 0, true);
                } else {
                    fault(each, 2, each.length());
                }
            }
            text.append(' ');
        }
    }

    /** "Lend, gift (1 to 999)." */
    private static void lent() {
        for (int much : new int[] {1, 2, 998, 999}) {
            LetMe x = good("lend a to b " + much + ";", 1);
            x.live(0);
            CHECK.given(x, "60 lent " + much, x.owes(1, 0), much);
            LetMe y = good("gift a to b " + much + ";", 1);
            y.lend(0, 1, 5_000);
            y.live(0);
            CHECK.given(y, "60 given " + much, y.owes(1, 0), 5_000 - much);
        }
        Still still = new Still(CHECK, Still::rich);
        for (String much : List.of("0", "0000", "1000", "1001", "9999")) {
            still.yearFault("lend ann to bob " + much + ";", 4, 16);
            still.yearFault("gift ann to bob " + much + ";", 4, 16);
        }
        fault("lend a to b 10000;", 1, 12);
        fault("gift a to b 00001;", 1, 12);
    }

    /** "Loop n (1 to 99)." */
    private static void loops() {
        for (int times : new int[] {1, 2, 98, 99}) {
            LetMe x = good("loop " + times + ";round;end;", 2);
            CHECK.given(x, "60 loop " + times, x.live(0), 1 + times);
            CHECK.given(x, "60 rounds of loop " + times, x.told(8), times);
        }
        Still still = new Still(CHECK, Still::rich);
        for (String times : List.of("0", "00", "100", "101", "9999")) {
            still.yearFault("loop " + times + ";end;", 4, 5);
        }
        fault("loop 00001;end;", 1, 5);
    }

    /** "When paid: 0 to 999." */
    private static void paid() {
        for (int many : new int[] {0, 1, 998, 999}) {
            LetMe x = good("when paid a=" + many + ";round;end;", 2);
            CHECK.given(x, "60 paid " + many, x.live(0), many == 0 ? 2 : 1);
        }
        Still still = new Still(CHECK, Still::rich);
        for (String many : List.of("1000", "1001", "9999")) {
            still.yearFault("when paid ann<" + many + ";end;", 4, 14);
        }
        fault("when paid a<10000;end;", 1, 12);
    }

    /** "Owes: 0 to 9,999." */
    private static void owed() {
        for (int much : new int[] {0, 1, 9_998, 9_999}) {
            LetMe x = good("when owes a b=" + much + ";round;end;", 2);
            CHECK.given(x, "60 owes " + much, x.live(0), much == 0 ? 2 : 1);
        }
        fault("when owes a b=10000;end;", 1, 14);
    }

    /** "COMPARES: < or > or =." */
    private static void compares() {
        for (String sign : List.of("<", ">", "=")) {
            good("when paid a" + sign + "3;end;", 1);
            good("when owes a b " + sign + " 3;end;", 1);
            fault("when turn a" + sign + "3;end;", 2, 11);
        }
        for (String sign : List.of(";", "", "to", "5")) {
            fault("when paid a " + sign + " 3;end;", 2, sign.isEmpty() ? 13 : 12);
            fault("when owes a b " + sign + " 3;end;", 2, sign.isEmpty() ? 15 : 14);
        }
        fault("when paid a<=3;end;", 2, 12);
        fault("when paid a>>3;end;", 2, 12);
        fault("when paid a!3;end;", 1, 11);
    }

    private static void noTokenBeginsSo() {
        Still still = new Still(CHECK, Still::rich);
        still.yearFault("Dinner;", 1, 0);
        still.yearFault("dinner;\t", 1, 7);
        still.yearFault("duel ann with \u00e9;", 1, 14);
        still.yearFault("loop 12345;", 1, 5);
        still.yearFault("when paid ann - 3;", 1, 14);
        still.yearFault("stop;\u0000", 1, 5);
    }

    private static void cannotStand() {
        Still still = new Still(CHECK, Still::rich);
        still.yearFault("ann;", 2, 0);
        still.yearFault("person ann;", 2, 0);
        still.yearFault("dinner ann;", 2, 7);
        still.yearFault("dinner by;", 2, 9);
        still.yearFault("dinner by 3;", 2, 10);
        still.yearFault("dinner by ann bob;", 2, 14);
        still.yearFault("duel ann bob;", 2, 9);
        still.yearFault("duel ann to bob;", 2, 9);
        still.yearFault("duel ann with bob 5;", 2, 18);
        still.yearFault("lend ann with bob 5;", 2, 9);
        still.yearFault("lend ann to bob;", 2, 15);
        still.yearFault("lend ann to 5;", 2, 12);
        still.yearFault("gift ann bob 5;", 2, 9);
        still.yearFault("gift ann to bob ann;", 2, 16);
        still.yearFault("round 5;", 2, 6);
        still.yearFault("stop 5;", 2, 5);
        still.yearFault("loop ann;", 2, 5);
        still.yearFault("loop 5 5;", 2, 7);
        still.yearFault("when;", 2, 4);
        still.yearFault("when dinner;", 2, 5);
        still.yearFault("when ann;", 2, 5);
        still.yearFault("when paid;", 2, 9);
        still.yearFault("when owes ann<3;", 2, 13);
        still.yearFault("when turn;", 2, 9);
        still.yearFault("when turn ann bob;", 2, 14);
        still.yearFault("loop 1;end 3;", 2, 11);
        still.yearFault(";", 2, 0);
        still.yearFault("round;;", 2, 6);
        still.yearFault("round round;", 2, 6);
        still.yearFault("5;", 2, 0);
        still.yearFault("<;", 2, 0);
    }

    /** "3 a NAME that is no person." */
    private static void names() {
        Still still = new Still(CHECK, Still::rich);
        still.yearFault("dinner by zoe;", 3, 10);
        still.yearFault("duel zoe with ann;", 3, 5);
        still.yearFault("duel ann with zoe;", 3, 14);
        still.yearFault("lend zoe to ann 5;", 3, 5);
        still.yearFault("lend ann to zoe 5;", 3, 12);
        still.yearFault("gift zoe to ann 5;", 3, 5);
        still.yearFault("gift ann to zoe 5;", 3, 12);
        still.yearFault("when paid zoe<5;", 3, 10);
        still.yearFault("when owes zoe ann<5;", 3, 10);
        still.yearFault("when owes ann zoe<5;", 3, 14);
        still.yearFault("when turn zoe;", 3, 10);
        LetMe x = Still.rich();
        CHECK.given(x, "11 each NAME", Check.year(x, "dinner by ann;dinner by bob;dinner by cy;dinner by di;"), 4);
        x.live(0);
        int[] paid = {1, 2, 1, 1};
        for (int i = 0; i < 4; i++) {
            CHECK.due("60 paid " + i, x.person(i, 5) >= paid[i], true);
        }
    }

    /** "5 a second NAME that is the first person's (at it)." */
    private static void itself() {
        Still still = new Still(CHECK, Still::rich);
        still.yearFault("duel ann with ann;", 5, 14);
        still.yearFault("duel di with di;", 5, 13);
        still.yearFault("lend bob to bob 5;", 5, 12);
        still.yearFault("gift cy to cy 5;", 5, 11);
        still.yearFault("when owes ann ann<5;", 5, 14);
        fault("duel a with a", 5, 12);
        fault("lend a to a 0;", 5, 10);
        fault("gift b to b !", 5, 10);
        fault("when owes b b;", 5, 12);
    }

    private static void keptWords() {
        List<String> steps = List.of("dinner", "duel", "lend", "gift", "round", "when", "loop", "stop");
        List<String> tests = List.of("paid", "owes", "turn");
        for (String word : TextModel.KEPT) {
            if (!steps.contains(word)) {
                fault(word + ";", 2, 0);
                fault("loop 1;" + word + " 5;", 2, word.equals("end") ? 11 : 7);
            }
            if (!tests.contains(word)) {
                fault("when " + word + " a;", 2, 5);
            }
            fault("dinner by " + word + ";", 2, 10);
            fault("duel " + word + " with a;", 2, 5);
            fault("duel a with " + word + ";", 2, 12);
            fault("lend a to " + word + " 5;", 2, 10);
            fault("gift " + word + " to a 5;", 2, 5);
            fault("when paid " + word + "<5;", 2, 10);
            fault("when turn " + word + ";", 2, 10);
            fault("when owes a " + word + "<5;", 2, 12);
            if (!word.equals("with")) {
                fault("duel a " + word + " b;", 2, 7);
            }
            if (!word.equals("to")) {
                fault("lend a " + word + " b 5;", 2, 7);
                fault("gift a " + word + " b 5;", 2, 7);
            }
        }
    }

    private static void longWords() {
        for (int letters : new int[] {9, 12, 13, 14, 26, 100}) {
            String word = "z".repeat(letters);
            fault("dinner by " + word + ";", 2, 10);
            fault("duel a with " + word + "a;", 2, 12);
            fault("when turn " + word + "a;", 2, 10);
            fault(word + "round;", 2, 0);
            fault("when " + word + "paid a<5;", 2, 5);
            fault("duel a " + word + "with b;", 2, 7);
        }
    }

    private static void theFirstAlongTheText() {
        fault("lend a to b 0;end;!", 4, 12);
        fault("dinner by c;loop 0;", 3, 10);
        fault("loop 0;loop !", 4, 5);
        fault("when paid c<1000;", 3, 10);
        fault("loop 1;loop 1;loop 1;loop 0;" + "round;".repeat(30), 7, 21);
        fault("round;!" + THIRTY, 1, 6);
        fault(THIRTY + "when turn c;!", 6, 180);
        fault("loop 9;dinner by c;", 3, 17);
    }

    /** "Of one TOKEN the least kind." */
    private static void theLeastKind() {
        fault("loop 1;loop 1;loop 1;" + "round;".repeat(27) + "loop 1;", 6, 183);
        fault("loop 1;loop 1;loop 1;" + "round;".repeat(27) + "when", 6, 183);
        fault(THIRTY + "!", 1, 180);
        fault(THIRTY + "person", 2, 180);
        fault(THIRTY.substring(0, 179) + " round;", 2, 180);
        fault("loop 1;loop 1;loop 1;round loop 1;", 2, 27);
        fault("loop 00000;", 1, 5);
        fault("duel a with 12345;", 1, 12);
        fault("end 55555", 2, 0);
    }

    /** "9" as a TABLE's: the old YEAR stays; the tape is empty, and fault() tells another. */
    private static void aFaultLeavesTheOldOne() {
        Still still = new Still(CHECK, Still::rich);
        String start = "stop;lend ann to bob 999;";
        int end = start.length();
        still.yearFault(start + "!", 1, end);
        still.yearFault(start + "end;", 2, end);
        still.yearFault(start + "dinner by a;", 3, end + 10);
        still.yearFault(start + "loop 0;", 4, end + 5);
        still.yearFault(start + "duel cy with cy;", 5, end + 13);
        still.yearFault(start + "round;".repeat(28) + "stop", 6, end + 168);
        still.yearFault(start + "loop 1;loop 1;loop 1;loop", 7, end + 21);
        LetMe x = Still.rich();
        int steps = x.live(3);
        x.back();
        x.mark();
        Check.feed(x, "round;stop;x");
        CHECK.fault(x, "11 the tape is empty", x.year(12), 2, 11);
        CHECK.refused(x, "11 the tape is empty", x.table(1), 1);
        CHECK.given(x, "60 the old one", x.live(3), steps);
    }

    private static void aNewYear() {
        LetMe x = Still.rich();
        String table = Still.table(x);
        CHECK.given(x, "11 another", Check.year(x, "stop;round;"), 2);
        CHECK.due("11 the TABLE stays", Still.table(x).equals(table), true);
        CHECK.given(x, "60 another", x.live(3), 1);
        CHECK.due("60 nothing came of it", Still.table(x).equals(table), true);
        CHECK.given(x, "11 of none", Check.year(x, ""), 0);
        CHECK.given(x, "60 of none", x.live(3), 0);
        CHECK.given(x, "64 MARKS stay", x.back(), 1);
        CHECK.due("64 the YEAR of the MARK", x.live(3) > 2, true);
    }

    /** "Of the latest table() or year() with STATUS 0 or 9: the FAULT (0 without one), its place (NONE without)." */
    private static void whatFaultTells() {
        LetMe x = new LetMe();
        told(x, "ahead of any", LetMe.NONE, LetMe.NONE);
        x.table(1);
        x.year(-1);
        told(x, "ahead of any, behind STATUS 1", LetMe.NONE, LetMe.NONE);
        Check.year(x, "round");
        told(x, "of a year", 2, 5);
        x.year(99);
        x.table(-1);
        told(x, "not of STATUS 1", 2, 5);
        x.live(0);
        x.told(-1);
        told(x, "not of other calls", 2, 5);
        x.table(0);
        told(x, "without", 0, LetMe.NONE);
        x.year(99);
        x.table(-1);
        told(x, "without, not of STATUS 1", 0, LetMe.NONE);
        Check.table(x, "person a;person a;");
        told(x, "of a table", 3, 16);
        Check.year(x, "stop;");
        told(x, "without", 0, LetMe.NONE);
        Check.table(x, "!");
        told(x, "at place 0", 1, 0);
        Check.year(x, "loop 0;");
        told(x, "of a year again", 4, 5);
        x.year(0);
        told(x, "without", 0, LetMe.NONE);
    }

    private static void told(LetMe x, String call, int kind, int place) {
        CHECK.due("12 " + call, x.fault(0), kind);
        CHECK.due("12 its place, " + call, x.fault(1), place);
    }

    /** "NONE for others." */
    private static void faultHasNoOthers() {
        LetMe[] all = {new LetMe(), Check.at(TWO), Still.rich()};
        for (LetMe x : all) {
            for (int what : new int[] {Integer.MIN_VALUE, -2, -1, 2, 3, 9, Integer.MAX_VALUE}) {
                CHECK.due("12 fault(" + what + ")", x.fault(what), LetMe.NONE);
            }
        }
    }
}
