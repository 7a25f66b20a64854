/** The bounds that the document names for promises 60 to 62: YEARS as they are lived. */
public final class LifeEdgesTest {
    private static final Check CHECK = new Check("LifeEdgesTest");
    private static final int LEAST = Integer.MIN_VALUE;
    private static final int MOST = Integer.MAX_VALUE;
    private static final String TWO = "person a insists 8 quick 3;person b insists 4 quick 5;dish 10;";
    /** 298 STEPS. */
    private static final String MANY = "loop 99;round;round;round;end;";

    public static void main(String[] args) {
        seeds();
        noYear();
        whatWasLived();
        noneLived();
        livedStays();
        howManySeeds();
        theLastSeed();
        meanOfWhom();
        meanOfNoYear();
        allStaysBehindAMean();
        meanOfAllPaid();
        threeHundredSteps();
        leftToBeDone();
        endIsNoStep();
        loopsOnceAndOften();
        stopEndsAll();
        comparesPaid();
        comparesOwes();
        comparesTurn();
        lendJustTheMost();
        payJustTheMost();
        dinnerTooDear();
        giftToZero();
        nobodyIsThere();
        allQuickAreZero();
        nobodyIsIn();
        drawsWrapRound();
        drawsPersonByPerson();
        drawsBySixteen();
        twentyDraws();
        goesOnFromThere();
        CHECK.finish();
    }

    private static int next(int s) {
        return (int) ((s * 2917L + 11119L) % 65536L);
    }

    private static void livedIs(LetMe x, String call, int... wants) {
        for (int what = 0; what < wants.length; what++) {
            CHECK.given(x, "61 " + call + " lived(" + what + ")", x.lived(what), wants[what]);
        }
    }

    /** "A seed (0 to 9,999)." */
    private static void seeds() {
        Still still = new Still(CHECK, Still::richAndFed);
        for (int seed : new int[] {LEAST, -2, -1, 10_000, 10_001, MOST}) {
            still.refused("60 seed " + seed, x -> x.live(seed), 1);
        }
        for (int seed : new int[] {0, 1, 9_998, 9_999}) {
            LetMe x = Still.richAndFed();
            CHECK.given(x, "60 seed " + seed, x.live(seed), 6);
        }
    }

    /** "6: no YEAR." */
    private static void noYear() {
        Still still = new Still(CHECK, () -> Check.at(TWO));
        for (int seed : new int[] {0, 5, 9_999}) {
            still.refused("60 no year " + seed, x -> x.live(seed), 6);
        }
        still.refused("60 1 ahead of 6", x -> x.live(-1), 1);
        still.refused("60 1 ahead of 6", x -> x.live(10_000), 1);
        LetMe x = Check.at(TWO, "round;");
        Check.table(x, TWO);
        CHECK.refused(x, "60 none of a new TABLE", x.live(0), 6);
        LetMe y = Check.at(TWO);
        Check.year(y, "round");
        CHECK.refused(y, "60 none of a FAULT", y.live(0), 6);
    }

    private static void whatWasLived() {
        Still still = new Still(CHECK, Still::richAndFed);
        for (int what : new int[] {LEAST, -2, -1, 5, 6, MOST}) {
            still.refused("61 what " + what, x -> x.lived(what), 1);
        }
        int[] wants = {0, 2, 0, 2, 0};
        for (int what = 0; what < 5; what++) {
            int each = what;
            still.given("61 what " + what, x -> x.lived(each), wants[what]);
        }
    }

    /** "6: there was none." */
    private static void noneLived() {
        Still still = new Still(CHECK, () -> {
            LetMe x = Check.at(TWO, "round;");
            x.live(-1);
            x.mean(0, 0, 5);
            return x;
        });
        for (int what = 0; what < 5; what++) {
            int each = what;
            still.refused("61 none", x -> x.lived(each), 6);
        }
        still.refused("61 1 ahead of 6", x -> x.lived(5), 1);
        still.refused("61 1 ahead of 6", x -> x.lived(-1), 1);
    }

    /** "Of live() latest with STATUS 0 (whatever came behind it)." */
    private static void livedStays() {
        LetMe x = Check.at(TWO, "duel a with b;round;dinner by a;stop;");
        x.mark();
        x.live(3);
        int said = x.lived(2);
        livedIs(x, "at once", 0, 2, said, 1, 0);
        x.live(10_000);
        livedIs(x, "behind STATUS 1", 0, 2, said, 1, 0);
        x.mean(0, 7, 20);
        livedIs(x, "behind a mean", 0, 2, said, 1, 0);
        x.back();
        livedIs(x, "behind a MARK", 0, 2, said, 1, 0);
        Check.year(x, "round;round;");
        livedIs(x, "behind a new YEAR", 0, 2, said, 1, 0);
        Check.table(x, "");
        livedIs(x, "behind a new TABLE", 0, 2, said, 1, 0);
        x.live(3);
        livedIs(x, "behind STATUS 6", 0, 2, said, 1, 0);
        Check.year(x, "dinner;round;round;");
        x.live(3);
        livedIs(x, "of the latest", 3, 0, 0, 0, 0);
        Check.year(x, "");
        x.live(3);
        livedIs(x, "of no STEPS", 0, 0, 0, 0, 0);
    }

    /** "By so many seeds (1 to 20)." */
    private static void howManySeeds() {
        Still still = new Still(CHECK, Still::richAndFed);
        for (int many : new int[] {LEAST, -1, 0, 21, 22, MOST}) {
            still.denied("62 many " + many, x -> x.mean(0, 5, many), 1);
            still.denied("62 many " + many + " from 0", x -> x.mean(0, 0, many), 1);
        }
        for (int many : new int[] {1, 2, 19, 20}) {
            LetMe x = Check.at(TWO, "dinner;");
            CHECK.granted(x, "62 many " + many, x.mean(0, 5, many));
            int paid = 0;
            for (int seed = 5; seed < 5 + many; seed++) {
                paid += next(seed) / 8 % 8 < 3 ? 1 : 0;
            }
            CHECK.due("62 many " + many, x.top() * many, paid * x.bottom());
        }
    }

    /** "1: the last above 9,999, too." */
    private static void theLastSeed() {
        Still still = new Still(CHECK, Still::richAndFed);
        int[][] beyond = {{-1, 1}, {-1, 20}, {LEAST, 20}, {10_000, 1}, {9_999, 2}, {9_981, 20}, {9_998, 3}, {MOST, 1}, {MOST, 20}, {MOST - 19, 20}};
        for (int[] row : beyond) {
            still.denied("62 from " + row[0] + " so many " + row[1], x -> x.mean(0, row[0], row[1]), 1);
        }
        int[][] within = {{0, 1}, {0, 20}, {9_999, 1}, {9_998, 2}, {9_980, 20}};
        for (int[] row : within) {
            LetMe x = Check.at(TWO, "dinner;");
            CHECK.granted(x, "62 from " + row[0] + " so many " + row[1], x.mean(1, row[0], row[1]));
            int paid = 0;
            for (int seed = row[0]; seed < row[0] + row[1]; seed++) {
                paid += next(seed) / 8 % 8 < 3 ? 0 : 1;
            }
            CHECK.due("62 from " + row[0] + " so many " + row[1], x.top() * row[1], paid * x.bottom());
        }
    }

    private static void meanOfWhom() {
        Still still = new Still(CHECK, Still::richAndFed);
        for (int person : new int[] {LEAST, -1, 4, 5, MOST}) {
            still.denied("62 person " + person, x -> x.mean(person, 5, 5), 1);
        }
        LetMe nobody = new LetMe();
        nobody.year(0);
        CHECK.denied(nobody, "62 nobody", nobody.mean(0, 0, 1), 1);
    }

    private static void meanOfNoYear() {
        Still still = new Still(CHECK, () -> Check.at(TWO));
        still.denied("62 no year", x -> x.mean(0, 0, 1), 6);
        still.denied("62 no year", x -> x.mean(1, 9_980, 20), 6);
        still.denied("62 1 ahead of 6", x -> x.mean(2, 0, 1), 1);
        still.denied("62 1 ahead of 6", x -> x.mean(0, 0, 21), 1);
        still.denied("62 1 ahead of 6", x -> x.mean(0, 9_999, 2), 1);
    }

    /** "All stays as it is." */
    private static void allStaysBehindAMean() {
        Still rich = new Still(CHECK, Still::richAndFed);
        for (int person = 0; person < 4; person++) {
            int who = person;
            rich.granted("62 person " + person, x -> x.mean(who, 0, 20));
        }
        Still still = new Still(CHECK, () -> Check.at(TWO + "owes a b 50;", "dinner by a;gift b to a 9;lend a to b 5;round;loop 3;dinner by a;end;"));
        still.fraction("62 four each", x -> x.mean(0, 0, 20), 4, 1);
        still.fraction("62 none", x -> x.mean(1, 9_999, 1), 0, 1);
    }

    /** "The mean of how often a person has PAID behind the YEAR." */
    private static void meanOfAllPaid() {
        LetMe x = Check.at(TWO, "dinner by b;");
        x.pay(0);
        x.pay(0);
        CHECK.fraction(x, "62 paid ahead of it", x.mean(0, 0, 3), 2, 1);
        CHECK.fraction(x, "62 paid in it", x.mean(1, 0, 3), 1, 1);
        x.pay(1);
        CHECK.fraction(x, "62 paid ahead of it and in it", x.mean(1, 0, 3), 2, 1);
        for (int person = 0; person < 4; person++) {
            int paid = 0;
            for (int seed = 0; seed < 20; seed++) {
                LetMe y = Still.rich();
                y.live(seed);
                paid += y.person(person, 5);
            }
            LetMe y = Still.rich();
            CHECK.granted(y, "62 of twenty", y.mean(person, 0, 20));
            CHECK.due("62 of twenty", y.top() * 20, paid * y.bottom());
        }
    }

    /** "At most 300 STEPS"; what was left is told. */
    private static void threeHundredSteps() {
        String[] last = {"dinner;", "dinner by a;", "duel a with b;", "lend a to b 5;", "gift a to b 5;", "round;", "when turn a;end;",
            "when paid a>999;round;end;", "loop 99;end;", "stop;"};
        for (String step : last) {
            LetMe within = Check.at(TWO, MANY + "round;" + step);
            CHECK.given(within, "60 the 300th " + step, within.live(4), 300);
            CHECK.given(within, "61 none is left behind " + step, within.lived(4), 0);
            LetMe beyond = Check.at(TWO, MANY + "round;round;" + step);
            CHECK.given(beyond, "60 the 301st " + step, beyond.live(4), 300);
            CHECK.given(beyond, "61 one is left " + step, beyond.lived(4), 1);
            CHECK.given(beyond, "61 rounds ahead of it", beyond.lived(3), 299);
            CHECK.given(beyond, "61 it was not done " + step, beyond.lived(1), 0);
            CHECK.given(beyond, "60 it was not done " + step, beyond.told(9), 0);
            CHECK.given(beyond, "60 it was not done " + step, beyond.ties(), 0);
            LetMe fewer = Check.at(TWO, MANY + step);
            CHECK.given(fewer, "60 the 299th " + step, fewer.live(4), 299);
            CHECK.given(fewer, "61 none is left", fewer.lived(4), 0);
        }
    }

    /** "1 if a STEP was left to be done (by the 300 alone, not by stop), else 0." */
    private static void leftToBeDone() {
        String[] years = {MANY + "round;loop 99;round;end;", MANY + "round;loop 1;end;", MANY + "round;loop 99;end;", MANY + "round;when turn b;round;end;",
            MANY + "round;when turn a;round;end;", MANY + "round;when turn a;end;", MANY + "round;loop 99;end;round;", MANY + "stop;round;round;",
            MANY + "round;stop;round;", "loop 1;" + MANY + "round;end;", "loop 2;" + MANY + "round;end;", "loop 2;" + MANY + "end;",
            "loop 2;" + MANY + "stop;end;", "loop 99;loop 3;round;end;end;", "loop 99;round;round;round;stop;end;",
            "loop 99;when paid a>0;end;round;round;end;round;round;", "loop 60;round;round;round;round;when turn a;end;end;"};
        int[] steps = {300, 300, 300, 300, 300, 300, 300, 299, 300, 300, 300, 300, 300, 300, 5, 300, 300};
        int[] left = {1, 0, 0, 0, 1, 0, 1, 0, 0, 0, 1, 1, 0, 1, 0, 0, 1};
        for (int i = 0; i < years.length; i++) {
            LetMe x = Check.at(TWO, years[i]);
            CHECK.given(x, "60 " + years[i], x.live(9), steps[i]);
            CHECK.given(x, "61 left of " + years[i], x.lived(4), left[i]);
        }
    }

    /** "When, loop count as one each time they are come to from ahead; end does not." */
    private static void endIsNoStep() {
        String[] years = {"loop 1;end;", "loop 99;end;", "loop 99;loop 1;end;end;", "loop 3;loop 5;end;loop 2;round;end;end;",
            "when turn a;end;", "when turn b;round;end;", "loop 4;when turn a;when turn b;round;end;end;end;"};
        int[] steps = {1, 1, 100, 1 + 3 * (1 + 1 + 2), 1, 1, 1 + 4 * 2};
        for (int i = 0; i < years.length; i++) {
            LetMe x = Check.at(TWO, years[i]);
            CHECK.given(x, "60 " + years[i], x.live(0), steps[i]);
        }
    }

    /** "Loop n: as often." */
    private static void loopsOnceAndOften() {
        for (int n : new int[] {1, 2, 98, 99}) {
            LetMe x = Check.at(TWO, "loop " + n + ";lend a to b 7;end;gift b to a 1;");
            CHECK.given(x, "60 loop " + n, x.live(0), n + 2);
            CHECK.given(x, "60 as often", x.owes(1, 0), 7 * n);
        }
        LetMe x = Check.at(TWO, "loop 2;loop 3;loop 4;lend a to b 1;end;lend a to b 10;end;lend a to b 100;end;");
        CHECK.given(x, "60 three within each other", x.live(0), 1 + 2 * (1 + 3 * (1 + 4 + 1) + 1));
        CHECK.given(x, "60 three within each other", x.owes(1, 0), 24 + 60 + 200);
        CHECK.given(x, "60 again", x.live(0), 1 + 2 * (1 + 3 * (1 + 4 + 1) + 1));
    }

    private static void stopEndsAll() {
        LetMe x = Check.at(TWO, "loop 9;when paid a=0;loop 9;round;stop;round;end;end;end;round;");
        CHECK.given(x, "60 out of three", x.live(0), 5);
        livedIs(x, "out of three", 0, 0, 0, 1, 0);
        LetMe first = Check.at(TWO, "stop;round;");
        CHECK.given(first, "60 at once", first.live(0), 1);
        livedIs(first, "at once", 0, 0, 0, 0, 0);
        CHECK.given(first, "60 at once again", first.live(0), 1);
    }

    private static void holds(LetMe x, String test, boolean isTrue) {
        Check.year(x, "when " + test + ";gift a to b 1;end;round;");
        CHECK.given(x, "60 when " + test, x.live(0), isTrue ? 3 : 2);
    }

    /** "When paid: 0 to 999." */
    private static void comparesPaid() {
        for (int many : new int[] {0, 1, 998, 999, 1_000}) {
            LetMe x = Check.at("person a;person b;");
            for (int left = many; left > 0; left -= 99) {
                Check.year(x, "loop " + Math.min(left, 99) + ";dinner by a;end;");
                x.live(0);
            }
            CHECK.given(x, "14 paid", x.person(0, 5), many);
            for (int number : new int[] {0, 1, 2, 997, 998, 999}) {
                holds(x, "paid a<" + number, many < number);
                holds(x, "paid a>" + number, many > number);
                holds(x, "paid a=" + number, many == number);
            }
            holds(x, "paid b=0", true);
        }
    }

    /** "Owes: 0 to 9,999 (above itself is above)." */
    private static void comparesOwes() {
        for (int owed : new int[] {0, 1, 9_998, 9_999, 10_000, 19_998, 999_999}) {
            LetMe x = Check.at("person a;person b;");
            PayersEdgesTest.lend(x, 1, 0, owed);
            int[] numbers = {0, 1, 9_998, 9_999};
            for (int number : numbers) {
                // what is given in the block is owed to the other one
                holds(x, "owes a b<" + number, owed < number);
                holds(x, "owes a b>" + number, owed > number);
                holds(x, "owes a b=" + number, owed == number);
            }
            holds(x, "owes b a=0", true);
        }
    }

    private static void comparesTurn() {
        LetMe x = Check.at("person a guest;person b quick 2;person c insists 5;");
        int[] turns = {1, 1, 1, 2};
        for (int law = 0; law < 4; law++) {
            x.law(law);
            for (int i = 0; i < 3; i++) {
                holds(x, "turn " + "abc".charAt(i), turns[law] == i);
            }
        }
        x.law(0);
        x.pay(1);
        holds(x, "turn c", true);
        holds(x, "turn b", false);
    }

    /** "MISSED: what would be above 999,999": a lend. */
    private static void lendJustTheMost() {
        LetMe x = Check.at("person a;person b;", "lend a to b 999;");
        PayersEdgesTest.lend(x, 0, 1, 999_000);
        CHECK.given(x, "60 just the most", x.live(0), 1);
        CHECK.given(x, "61 not missed", x.lived(0), 0);
        CHECK.given(x, "38 just the most", x.owes(1, 0), 999_999);
        Check.year(x, "lend a to b 1;lend b to a 1;");
        CHECK.given(x, "60 above", x.live(0), 2);
        CHECK.given(x, "61 missed", x.lived(0), 1);
        CHECK.given(x, "38 as it was", x.owes(1, 0), 999_999);
        CHECK.given(x, "38 the other way", x.owes(0, 1), 1);
        LetMe y = Check.at("person a;person b;", "lend a to b 999;");
        PayersEdgesTest.lend(y, 0, 1, 999_001);
        y.live(0);
        CHECK.given(y, "61 missed by 1", y.lived(0), 1);
        CHECK.given(y, "38 as it was", y.owes(1, 0), 999_001);
    }

    /** A dinner. */
    private static void payJustTheMost() {
        for (String step : new String[] {"dinner by a;", "dinner;", "duel a with b;"}) {
            for (int over = 0; over <= 1; over++) {
                LetMe x = Check.at("person a insists 16;person b quick 0;person c quick 0;dish 300;", step);
                PayersEdgesTest.lend(x, 0, 2, 999_899 + over);
                CHECK.given(x, "60 " + step, x.live(0), 1);
                livedIs(x, step + " over " + over, over, 1 - over, step.startsWith("duel") ? 2 : 0, 0, 0);
                CHECK.given(x, "38 the third", x.owes(2, 0), over == 0 ? 999_999 : 999_900);
                CHECK.given(x, "38 the second", x.owes(1, 0), over == 0 ? 100 : 0);
                CHECK.given(x, "14 paid", x.person(0, 5), 1 - over);
            }
        }
    }

    /** A dinner that is MISSED as too much had its draw. */
    private static void dinnerTooDear() {
        for (int seed = 0; seed < 40; seed++) {
            LetMe x = Check.at("person a quick 5;person b quick 0;person c insists 8 quick 0;dish 300 by b;split eaten;", "dinner;duel c with b;");
            PayersEdgesTest.lend(x, 0, 1, 999_999);
            x.live(seed);
            boolean isSaid = next(next(seed)) / 8 % 16 < 8;
            CHECK.given(x, "60 the second draw", x.person(2, 5), isSaid ? 1 : 0);
            livedIs(x, "missed, and a duel", 1, 1, isSaid ? 2 : 1, 0, 0);
        }
    }

    /** "A gift: less; 0 at least." */
    private static void giftToZero() {
        int[][] all = {{0, 5, 0}, {5, 4, 1}, {5, 5, 0}, {5, 6, 0}, {999, 999, 0}, {998, 999, 0}, {1_000, 999, 1}};
        for (int[] row : all) {
            LetMe x = Check.at("person a;person b;owes b a " + row[0] + ";owes a b 7;", "gift a to b " + row[1] + ";");
            x.live(0);
            CHECK.given(x, "60 " + row[0] + " less " + row[1], x.owes(1, 0), row[2]);
            CHECK.given(x, "60 the other way", x.owes(0, 1), 7);
            CHECK.given(x, "61 not missed", x.lived(0), 0);
            CHECK.given(x, "13 a gift", x.told(9), 1);
        }
    }

    /** "MISSED: nobody is there." */
    private static void nobodyIsThere() {
        LetMe x = new LetMe();
        Check.year(x, "dinner;round;dinner;loop 3;round;end;");
        CHECK.given(x, "60 nobody", x.live(0), 7);
        livedIs(x, "nobody", 6, 0, 0, 0, 0);
        CHECK.given(x, "13 no rounds", x.told(8), 0);
        CHECK.given(x, "13 none paid", x.told(7), 0);
    }

    /** "MISSED: all QUICK are 0." */
    private static void allQuickAreZero() {
        LetMe x = Check.at("person a quick 0;person b quick 0;dish 9;", "dinner;dinner by b;");
        CHECK.given(x, "60 all quick are 0", x.live(0), 2);
        livedIs(x, "all quick are 0", 1, 1, 0, 0, 0);
        CHECK.given(x, "14 by name it is paid", x.person(1, 5), 1);
        // by 0 there is no draw: the duel behind it has the first one
        for (int seed = 0; seed < 40; seed++) {
            LetMe y = Check.at("person a insists 8 quick 0;person b quick 0;", "dinner;duel a with b;");
            y.live(seed);
            boolean isSaid = next(seed) / 8 % 16 < 8;
            CHECK.given(y, "60 who stays", y.person(isSaid ? 0 : 1, 5), 1);
            livedIs(y, "all quick are 0, and a duel", 1, 1, isSaid ? 2 : 1, 0, 0);
        }
        LetMe one = Check.at("person a quick 0;person b quick 1;", "loop 50;dinner;end;");
        one.live(0);
        CHECK.given(one, "14 the only quick one", one.person(1, 5), 50);
    }

    /** "A round when nobody is IN." */
    private static void nobodyIsIn() {
        LetMe x = Check.at("person a;person b;", "round;round;");
        x.comes(0, 0);
        x.live(0);
        livedIs(x, "one is in", 0, 0, 0, 2, 0);
        x.comes(1, 0);
        x.live(0);
        livedIs(x, "nobody is in", 2, 0, 0, 0, 0);
        CHECK.given(x, "13 rounds", x.told(8), 2);
        x.comes(0, 1);
        x.live(0);
        livedIs(x, "one is in again", 0, 0, 0, 2, 0);
    }

    /** "What is left of s times 2,917 and 11,119 by 65,536; the rest of s by 8, rounded down, by n." */
    private static void drawsWrapRound() {
        for (int seed : new int[] {0, 1, 18, 19, 4_999, 5_000, 9_998, 9_999}) {
            LetMe x = Check.at("person a quick 20;person b quick 1;person c quick 16;", "loop 99;dinner;dinner;dinner;end;");
            CHECK.given(x, "60 so many draws", x.live(seed), 298);
            int[] paid = new int[3];
            int s = seed;
            for (int i = 0; i < 297; i++) {
                s = next(s);
                int drawn = s / 8 % 37;
                paid[drawn < 20 ? 0 : drawn < 21 ? 1 : 2]++;
            }
            for (int i = 0; i < 3; i++) {
                CHECK.given(x, "60 seed " + seed + " who reached " + i, x.person(i, 5), paid[i]);
            }
        }
    }

    /** "By a draw by all QUICK together, person by person": GUESTS and those who are out, too. */
    private static void drawsPersonByPerson() {
        for (int seed = 0; seed < 60; seed++) {
            LetMe x = Check.at("person a quick 0;person b quick 2 guest;person c quick 1;person d quick 0;person e quick 1;person f quick 0;", "dinner;");
            x.comes(4, 0);
            x.live(seed);
            int drawn = next(seed) / 8 % 4;
            int payer = drawn < 2 ? 1 : drawn == 2 ? 2 : 4;
            for (int i = 0; i < 6; i++) {
                CHECK.given(x, "60 seed " + seed + " person " + i, x.person(i, 5), i == payer ? 1 : 0);
            }
        }
    }

    /** "Less than INSISTS: it is said": a draw of just as much is not. */
    private static void drawsBySixteen() {
        for (int insists = 0; insists <= 16; insists++) {
            for (int seed = 0; seed < 48; seed += 3) {
                LetMe x = Check.at("person a insists " + insists + ";person b;", "duel a with b;");
                x.live(seed);
                boolean isSaid = next(seed) / 8 % 16 < insists;
                CHECK.given(x, "60 who stays", x.person(isSaid ? 0 : 1, 5), 1);
                CHECK.given(x, "61 draws", x.lived(2), isSaid ? 2 : 1);
            }
        }
    }

    /** "Behind 20 draws he whose go it would be gives way (without a draw)." */
    private static void twentyDraws() {
        int[] seen = new int[22];
        for (int seed = 0; seed < 1_500; seed++) {
            int s = seed;
            int said = 0;
            boolean hasGivenWay = false;
            while (said < 20 && !hasGivenWay) {
                s = next(s);
                hasGivenWay = s / 8 % 16 >= 15;
                said++;
            }
            int payer = hasGivenWay ? said % 2 : 1;
            seen[hasGivenWay ? said : 21]++;
            LetMe x = Check.at("person a insists 15;person b insists 15;person c quick 0;", "duel a with b;dinner;");
            x.live(seed);
            CHECK.given(x, "61 draws of seed " + seed, x.lived(2), said);
            // the dinner behind it takes the next draw
            int other = next(s) / 8 % 2;
            CHECK.given(x, "60 the first", x.person(0, 5), (payer == 0 ? 1 : 0) + (other == 0 ? 1 : 0));
            CHECK.given(x, "60 the second", x.person(1, 5), (payer == 1 ? 1 : 0) + (other == 1 ? 1 : 0));
        }
        CHECK.due("60 seeds with a last draw of 19", seen[19] > 0, true);
        CHECK.due("60 seeds with a last draw of 20", seen[20] > 0, true);
        CHECK.due("60 seeds with more than 20", seen[21] > 0, true);
        LetMe sure = Check.at("person a insists 16;person b insists 16;", "duel b with a;");
        sure.live(1);
        CHECK.given(sure, "60 the first told gives way", sure.person(0, 5), 1);
        CHECK.given(sure, "61 twenty", sure.lived(2), 20);
        Check.year(sure, "loop 3;duel a with b;end;duel b with a;");
        sure.live(1);
        CHECK.given(sure, "61 twenty of each", sure.lived(2), 80);
        CHECK.given(sure, "60 the first told gives way", sure.person(0, 5), 2);
        CHECK.given(sure, "60 the first told gives way", sure.person(1, 5), 3);
    }

    /** "From how all is now: what it comes to stays." */
    private static void goesOnFromThere() {
        LetMe x = Check.at(TWO, "when paid a<2;dinner by a;round;end;lend b to a 3;");
        int[] steps = {4, 4, 2, 2};
        for (int i = 0; i < steps.length; i++) {
            CHECK.given(x, "60 the time " + i, x.live(7), steps[i]);
            CHECK.given(x, "60 lent", x.owes(0, 1), 3 * (i + 1));
            CHECK.given(x, "60 rounds", x.told(8), Math.min(i + 1, 2));
        }
    }
}
