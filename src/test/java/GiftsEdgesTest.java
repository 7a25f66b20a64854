/** The bounds that the document names for promises 54 to 57: gifts. */
public final class GiftsEdgesTest {
    private static final Check CHECK = new Check("GiftsEdgesTest");
    private static final int LEAST = Integer.MIN_VALUE;
    private static final int MOST = Integer.MAX_VALUE;

    public static void main(String[] args) {
        noSuchPerson();
        oneAndItself();
        penceOfTheFirst();
        hundredths();
        numberOfTheGift();
        roundedDown();
        aboveTheMost();
        dearerThanMeans();
        meansOfBoth();
        theLongest();
        muchToGive();
        giveToZero();
        CHECK.finish();
    }

    private static void noSuchPerson() {
        Still still = new Still(CHECK, Still::richAndFed);
        for (int person : new int[] {LEAST, -2, -1, 4, 5, 6, MOST}) {
            still.refused("55 person " + person, x -> x.ends(person, 0, 5, 5), 1);
            still.refused("55 person " + person, x -> x.ends(0, person, 5, 5), 1);
            still.refused("56 person " + person, x -> x.wasted(person, 0, 5, 5), 1);
            still.refused("56 person " + person, x -> x.wasted(0, person, 5, 5), 1);
            still.refused("57 person " + person, x -> x.gift(person, 0, 5), 1);
            still.refused("57 person " + person, x -> x.gift(0, person, 5), 1);
        }
        still.given("54 gift 2", x -> x.giftAt(10, 50, 2), 25);
        still.given("55 ends", x -> x.ends(0, 1, 10, 50), 5);
        still.given("56 wasted", x -> x.wasted(0, 1, 10, 50), 10 + 16 + 25 + 38 + 58);
        LetMe nobody = new LetMe();
        CHECK.refused(nobody, "55 nobody", nobody.ends(0, 1, 5, 5), 1);
        CHECK.refused(nobody, "57 nobody", nobody.gift(0, 1, 5), 1);
        CHECK.given(nobody, "54 nobody is needed", nobody.giftAt(5, 5, 5), 10);
    }

    /** "1: one and itself, too." */
    private static void oneAndItself() {
        Still still = new Still(CHECK, Still::richAndFed);
        for (int person = 0; person < 4; person++) {
            int who = person;
            still.refused("55 itself " + who, x -> x.ends(who, who, 5, 5), 1);
            still.refused("56 itself " + who, x -> x.wasted(who, who, 5, 5), 1);
            still.refused("57 itself " + who, x -> x.gift(who, who, 5), 1);
        }
    }

    /** "So many pence (1 to 999)." */
    private static void penceOfTheFirst() {
        Still still = new Still(CHECK, Still::richAndFed);
        for (int pence : new int[] {LEAST, -1, 0, 1_000, 1_001, MOST}) {
            still.refused("54 pence " + pence, x -> x.giftAt(pence, 5, 0), 1);
            still.refused("55 pence " + pence, x -> x.ends(0, 1, pence, 5), 1);
            still.refused("56 pence " + pence, x -> x.wasted(0, 1, pence, 5), 1);
        }
        for (int pence : new int[] {1, 2, 998, 999}) {
            still.given("54 pence " + pence, x -> x.giftAt(pence, 5, 0), pence);
            still.given("55 pence " + pence, x -> x.ends(0, 1, pence, 100), pence == 1 ? 5 : pence == 2 ? 5 : 1);
            still.given("56 pence " + pence, x -> x.wasted(0, 1, pence, 100), pence == 1 ? 1 + 3 + 7 + 15 + 31 : pence == 2 ? 2 + 5 + 11 + 23 + 47 : pence);
        }
    }

    /** "So many hundredths (0 to 100)." */
    private static void hundredths() {
        Still still = new Still(CHECK, Still::richAndFed);
        for (int hundredths : new int[] {LEAST, -2, -1, 101, 102, MOST}) {
            still.refused("54 hundredths " + hundredths, x -> x.giftAt(5, hundredths, 5), 1);
            still.refused("55 hundredths " + hundredths, x -> x.ends(0, 1, 5, hundredths), 1);
            still.refused("56 hundredths " + hundredths, x -> x.wasted(0, 1, 5, hundredths), 1);
        }
        int[] grown = {0, 1, 50, 99, 100};
        int[] wants = {101, 102, 151, 200, 201};
        for (int i = 0; i < grown.length; i++) {
            int each = grown[i];
            still.given("54 hundredths " + each, x -> x.giftAt(100, each, 1), wants[i]);
            still.given("55 hundredths " + each, x -> x.ends(0, 2, 999, each), 1);
            still.given("56 hundredths " + each, x -> x.wasted(0, 2, 999, each), 999);
        }
    }

    /** "The k-th gift (0 to 60)." */
    private static void numberOfTheGift() {
        Still still = new Still(CHECK, Still::richAndFed);
        for (int k : new int[] {LEAST, -1, 61, 62, MOST}) {
            still.refused("54 k " + k, x -> x.giftAt(5, 0, k), 1);
            still.refused("54 k " + k + ", ahead of 7", x -> x.giftAt(999, 100, k), 1);
        }
        for (int k : new int[] {0, 1, 2, 59, 60}) {
            still.given("54 k " + k, x -> x.giftAt(5, 0, k), 5 + k);
        }
        still.refused("54 pence ahead of 7", x -> x.giftAt(1_000, 100, 60), 1);
        still.refused("54 hundredths ahead of 7", x -> x.giftAt(999, 101, 60), 1);
    }

    /** "Of so many hundredths of that, rounded down, and 1 more." */
    private static void roundedDown() {
        int[][] all = {{1, 99, 2}, {1, 100, 3}, {99, 1, 100}, {100, 1, 102}, {3, 33, 4}, {3, 34, 5}, {199, 1, 201}, {7, 50, 11}, {999, 99, 1_989}};
        LetMe x = new LetMe();
        for (int[] row : all) {
            CHECK.given(x, "54 of " + row[0] + " by " + row[1], x.giftAt(row[0], row[1], 1), row[2]);
        }
    }

    /** "7: above 999,999": no row of gifts has 999,999 itself; these two come nearest to it. */
    private static void aboveTheMost() {
        Still still = new Still(CHECK, Still::richAndFed);
        still.given("54 the greatest that is told", x -> x.giftAt(767, 27, 30), 999_964);
        still.refused("54 the next one of it", x -> x.giftAt(767, 27, 31), 7);
        still.refused("54 the least that is not told", x -> x.giftAt(309, 53, 19), 7);
        still.given("54 the one ahead of it", x -> x.giftAt(309, 53, 18), 653_597);
        still.refused("54 far above", x -> x.giftAt(999, 100, 60), 7);
        still.refused("54 far above", x -> x.giftAt(1, 100, 60), 7);
        LetMe x = new LetMe();
        for (int pence = 1; pence <= 999; pence += 83) {
            for (int grown = 0; grown <= 100; grown += 4) {
                long worth = pence;
                for (int k = 0; k <= 60; k++) {
                    if (k % 12 == 0) {
                        CHECK.due("54 by hand", x.giftAt(pence, grown, k), worth > 999_999 ? LetMe.NONE : worth);
                        CHECK.due("54 by hand, status", x.status(), worth > 999_999 ? 7 : 0);
                    }
                    worth = Math.min(worth + worth * grown / 100 + 1, 1L << 40);
                }
                x = new LetMe();
            }
        }
    }

    /** "The first gift (from 0 on) that is dearer than the MEANS of who would give it." */
    private static void dearerThanMeans() {
        LetMe x = Check.at("person a means 50;person b means 999;person c means 0;");
        CHECK.given(x, "55 just the MEANS", x.ends(0, 1, 50, 0), 2);
        CHECK.given(x, "56 just the MEANS", x.wasted(0, 1, 50, 0), 50 + 51);
        CHECK.given(x, "55 1 more", x.ends(0, 1, 51, 0), 0);
        CHECK.given(x, "56 1 more", x.wasted(0, 1, 51, 0), 0);
        CHECK.given(x, "55 the second's, just", x.ends(1, 0, 49, 0), 3);
        CHECK.given(x, "56 the second's, just", x.wasted(1, 0, 49, 0), 49 + 50 + 51);
        CHECK.given(x, "55 the second's, 1 more", x.ends(1, 0, 50, 0), 1);
        CHECK.given(x, "55 who gives none", x.ends(2, 1, 1, 0), 0);
        CHECK.given(x, "55 to whom gives none", x.ends(1, 2, 1, 0), 1);
        CHECK.given(x, "56 to whom gives none", x.wasted(1, 2, 1, 0), 1);
        CHECK.given(x, "55 the dearest first", x.ends(1, 0, 999, 0), 1);
    }

    private static void meansOfBoth() {
        int[] means = {0, 1, 2, 10, 998, 999};
        for (int first : means) {
            for (int second : means) {
                LetMe x = Check.at("person a means " + first + ";person b means " + second + ";");
                for (int pence : new int[] {1, 2, 3, 998, 999}) {
                    int worth = pence;
                    int given = 0;
                    int sum = 0;
                    while (worth <= (given % 2 == 0 ? first : second)) {
                        sum += worth;
                        worth += worth / 10 + 1;
                        given++;
                    }
                    CHECK.given(x, "55 means " + first + " " + second, x.ends(0, 1, pence, 10), given);
                    CHECK.given(x, "56 means " + first + " " + second, x.wasted(0, 1, pence, 10), sum);
                }
            }
        }
    }

    private static void theLongest() {
        LetMe x = Check.at("person a;person b means 998;");
        CHECK.given(x, "55 until the second's", x.ends(0, 1, 1, 0), 999);
        CHECK.given(x, "56 until the second's", x.wasted(0, 1, 1, 0), 499_500);
        CHECK.given(x, "55 until the first's", x.ends(0, 1, 2, 0), 997);
        CHECK.given(x, "55 the other way", x.ends(1, 0, 1, 0), 998);
        CHECK.given(x, "56 the other way", x.wasted(1, 0, 1, 0), 498_501);
        CHECK.given(x, "13 these are no gifts", x.told(9), 0);
    }

    /** "So much (1 to 9,999) less." */
    private static void muchToGive() {
        Still still = new Still(CHECK, Still::richAndFed);
        for (int much : new int[] {LEAST, -1, 0, 10_000, 10_001, MOST}) {
            still.refused("57 much " + much, x -> x.gift(0, 1, much), 1);
        }
        int left = 30_000;
        LetMe x = Check.at("person a;person b;person c;owes a b 5;owes b c 6;");
        PayersEdgesTest.lend(x, 0, 1, left);
        int gifts = 0;
        for (int much : new int[] {1, 2, 9_998, 9_999}) {
            left -= much;
            gifts++;
            CHECK.given(x, "57 much " + much, x.gift(0, 1, much), left);
            CHECK.given(x, "38 less", x.owes(1, 0), left);
            CHECK.given(x, "13 gifts", x.told(9), gifts);
        }
        CHECK.given(x, "38 the other way stays", x.owes(0, 1), 5);
        CHECK.given(x, "38 another one stays", x.owes(1, 2), 6);
    }

    /** "0 at least." */
    private static void giveToZero() {
        int[][] all = {{0, 1, 0}, {0, 9_999, 0}, {7, 6, 1}, {7, 7, 0}, {7, 8, 0}, {9_999, 9_998, 1}, {9_999, 9_999, 0}};
        for (int[] row : all) {
            LetMe x = Check.at("person a;person b;owes b a " + row[0] + ";owes a b 3;");
            CHECK.given(x, "57 of " + row[0] + " less " + row[1], x.gift(0, 1, row[1]), row[2]);
            CHECK.given(x, "38 of " + row[0] + " less " + row[1], x.owes(1, 0), row[2]);
            CHECK.given(x, "38 the other way", x.owes(0, 1), 3);
            CHECK.given(x, "13 a gift for nothing counts, too", x.told(9), 1);
        }
    }
}
