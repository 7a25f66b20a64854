/** The bounds that the document names for promises 38 to 48: who OWES whom. */
public final class DebtsEdgesTest {
    private static final Check CHECK = new Check("DebtsEdgesTest");
    private static final int LEAST = Integer.MIN_VALUE;
    private static final int MOST = Integer.MAX_VALUE;
    private static final int[] NOBODY = {LEAST, -2, -1, 4, 5, 6, MOST};
    private static final String SIX = "person a;person b;person c;person d;person e;person f;";

    public static void main(String[] args) {
        noSuchPerson();
        oneAndItself();
        muchToLend();
        lendJustTheMost();
        balanceTellsMinusOne();
        balanceOfTheMost();
        quitsAsFarAsItGoes();
        settleOfNone();
        settleOneToFive();
        tiesOneWayOrBoth();
        extremeWhat();
        extremeOfSeveral();
        simplifyOfNone();
        simplifyJustTheMost();
        simplifyTooMuch();
        simplifyOfSeveral();
        chainNotItself();
        chainOfAll();
        penceAHead();
        evenOfNone();
        evenByNinetyNine();
        evenOfUnlikeBalances();
        evenOfGuests();
        evenOfSix();
        CHECK.finish();
    }

    private static void noSuchPerson() {
        Still still = new Still(CHECK, Still::richAndFed);
        for (int person : NOBODY) {
            still.refused("38 person " + person, x -> x.owes(person, 0), 1);
            still.refused("38 person " + person, x -> x.owes(0, person), 1);
            still.refused("39 person " + person, x -> x.lend(person, 0, 5), 1);
            still.refused("39 person " + person, x -> x.lend(0, person, 5), 1);
            still.refused("40 person " + person, x -> x.balance(person), 1);
            still.refused("41 person " + person, x -> x.quits(person, 0), 1);
            still.refused("41 person " + person, x -> x.quits(0, person), 1);
            still.refused("46 person " + person, x -> x.chain(person), 1);
            still.refused("48 person " + person, x -> x.evenBy(5, person), 1);
        }
        still.given("38 owes", x -> x.owes(3, 2), 60);
        LetMe rich = Still.richAndFed();
        int balance = 0;
        int ties = 0;
        for (int i = 0; i < 4; i++) {
            balance += i == 3 ? 0 : rich.owes(i, 3) - rich.owes(3, i);
            for (int j = 0; j < i; j++) {
                ties += rich.owes(i, j) > 0 || rich.owes(j, i) > 0 ? 1 : 0;
            }
        }
        still.given("40 balance", x -> x.balance(3), balance);
        still.given("42 settle", LetMe::settle, 3);
        still.given("43 ties", LetMe::ties, ties);
        still.given("46 chain", x -> x.chain(3), 7);
        LetMe nobody = new LetMe();
        CHECK.refused(nobody, "38 nobody", nobody.owes(0, 1), 1);
        CHECK.refused(nobody, "40 nobody", nobody.balance(0), 1);
        CHECK.refused(nobody, "46 nobody", nobody.chain(0), 1);
    }

    /** "1: one and itself, too." */
    private static void oneAndItself() {
        Still still = new Still(CHECK, Still::richAndFed);
        for (int person = 0; person < 4; person++) {
            int who = person;
            still.refused("38 itself " + who, x -> x.owes(who, who), 1);
            still.refused("39 itself " + who, x -> x.lend(who, who, 5), 1);
            still.refused("41 itself " + who, x -> x.quits(who, who), 1);
        }
    }

    /** "The first lends the second so much (1 to 9,999)." */
    private static void muchToLend() {
        Still still = new Still(CHECK, Still::richAndFed);
        for (int much : new int[] {LEAST, -1, 0, 10_000, 10_001, MOST}) {
            still.refused("39 much " + much, x -> x.lend(0, 1, much), 1);
        }
        LetMe x = Check.at(SIX);
        int sum = 0;
        for (int much : new int[] {1, 2, 9_998, 9_999}) {
            sum += much;
            CHECK.given(x, "39 much " + much, x.lend(4, 5, much), sum);
            CHECK.given(x, "38 the second owes", x.owes(5, 4), sum);
            CHECK.given(x, "38 the first does not", x.owes(4, 5), 0);
        }
        CHECK.given(x, "43 they alone", x.ties(), 1);
    }

    private static LetMe near(int much) {
        LetMe x = Check.at("person a;person b;person c;");
        PayersEdgesTest.lend(x, 0, 1, much);
        return x;
    }

    /** "7: above 999,999." */
    private static void lendJustTheMost() {
        LetMe x = near(999_998);
        CHECK.given(x, "39 just the most", x.lend(0, 1, 1), 999_999);
        CHECK.refused(x, "39 above", x.lend(0, 1, 1), 7);
        CHECK.given(x, "39 the other way", x.lend(1, 0, 1), 1);
        CHECK.given(x, "39 another one", x.lend(2, 1, 9_999), 9_999);
        LetMe y = near(990_000);
        CHECK.given(y, "39 just the most", y.lend(0, 1, 9_999), 999_999);
        new Still(CHECK, () -> near(999_999)).refused("39 above by 1", z -> z.lend(0, 1, 1), 7);
        new Still(CHECK, () -> near(990_001)).refused("39 above by 1", z -> z.lend(0, 1, 9_999), 7);
        new Still(CHECK, () -> near(999_999)).refused("39 1 ahead of 7", z -> z.lend(0, 1, 10_000), 1);
        new Still(CHECK, () -> near(999_999)).refused("39 1 ahead of 7", z -> z.lend(0, 1, 0), 1);
    }

    private static void balanceTellsMinusOne() {
        LetMe x = Check.at("person a;person b;owes a b 1;");
        x.told(-1);
        CHECK.given(x, "40 -1", x.balance(0), -1);
        CHECK.given(x, "40 1", x.balance(1), 1);
        CHECK.refused(x, "40 NONE", x.balance(2), 1);
    }

    private static void balanceOfTheMost() {
        LetMe x = Check.at("person a;person b;person c;");
        PayersEdgesTest.lend(x, 0, 1, 999_999);
        PayersEdgesTest.lend(x, 0, 2, 999_999);
        CHECK.given(x, "40 the most", x.balance(0), 1_999_998);
        CHECK.given(x, "40 the least", x.balance(1), -999_999);
        CHECK.given(x, "44 the least", x.extreme(0), 1);
        CHECK.given(x, "44 the greatest", x.extreme(1), 0);
    }

    /** "By two what they OWE one another is taken off both, as far as it goes." */
    private static void quitsAsFarAsItGoes() {
        int[][] all = {{0, 0}, {0, 7}, {7, 0}, {7, 7}, {6, 7}, {7, 6}, {1, 9_999}, {9_999, 9_999}};
        for (int[] row : all) {
            int less = Math.min(row[0], row[1]);
            for (int order = 0; order < 2; order++) {
                LetMe x = Check.at(SIX + "owes c e " + row[0] + ";owes e c " + row[1] + ";owes c d 5;owes d e 5;");
                CHECK.given(x, "41 quits", order == 0 ? x.quits(2, 4) : x.quits(4, 2), less);
                CHECK.given(x, "41 left", x.owes(2, 4), row[0] - less);
                CHECK.given(x, "41 left", x.owes(4, 2), row[1] - less);
                CHECK.given(x, "41 the others stay", x.owes(2, 3), 5);
                CHECK.given(x, "41 the others stay", x.owes(3, 4), 5);
                CHECK.given(x, "41 no more", x.quits(2, 4), 0);
            }
        }
    }

    private static void settleOfNone() {
        CHECK.given(new LetMe(), "42 nobody", new LetMe().settle(), 0);
        LetMe x = Check.at("person a;");
        CHECK.given(x, "42 alone", x.settle(), 0);
        LetMe y = Check.at(SIX);
        CHECK.given(y, "42 nobody owes", y.settle(), 0);
        LetMe z = Check.at(SIX + "owes a b 5;owes b a 5;owes c d 3;owes d e 3;owes e c 3;");
        CHECK.given(z, "42 all balances are 0", z.settle(), 0);
    }

    /** "The fewest payings, each by one to another, by which all BALANCES are 0." */
    private static void settleOneToFive() {
        String[] debts = {"owes a f 1;", "owes a f 1;owes b f 1;", "owes a f 1;owes b f 2;owes c f 4;", "owes a f 1;owes b f 2;owes c f 4;owes d f 8;",
            "owes a f 1;owes b f 2;owes c f 4;owes d f 8;owes e f 16;"};
        for (int i = 0; i < debts.length; i++) {
            LetMe x = Check.at(SIX + debts[i]);
            CHECK.given(x, "42 payings", x.settle(), i + 1);
        }
        LetMe chain = Check.at(SIX + "owes a b 9;owes b c 9;owes c d 9;owes d e 9;owes e f 9;");
        CHECK.given(chain, "42 a chain is one", chain.settle(), 1);
        LetMe one = Check.at(SIX + "owes a d 5;owes b d 2;owes c e 7;owes c f 1;owes a f 3;");
        CHECK.given(one, "42 -8, -2, -8, 7, 7, 4 is one group", one.settle(), 5);
        LetMe groups = Check.at(SIX + "owes a e 5;owes a d 3;owes b d 1;owes c d 5;owes c f 4;");
        CHECK.given(groups, "42 -8, -1, -9, 9, 5, 4 is two", groups.settle(), 4);
        LetMe pairs = Check.at(SIX + "owes a e 3;owes b f 4;owes a f 2;owes c d 6;owes b e 2;");
        CHECK.given(pairs, "42 three pairs", pairs.settle(), 3);
        LetMe three = Check.at(SIX + "owes a b 1;owes a c 2;owes d e 4;owes d f 8;");
        CHECK.given(three, "42 two groups of three", three.settle(), 4);
    }

    /** "OWE one another, one way or both." */
    private static void tiesOneWayOrBoth() {
        LetMe x = Check.at(SIX);
        int ties = 0;
        CHECK.given(x, "43 none", x.ties(), 0);
        for (int a = 0; a < 6; a++) {
            for (int b = a + 1; b < 6; b++) {
                ties++;
                boolean isUp = (a + b) % 2 == 0;
                x.lend(isUp ? a : b, isUp ? b : a, 1);
                CHECK.given(x, "43 one way", x.ties(), ties);
                x.lend(isUp ? b : a, isUp ? a : b, 1);
                CHECK.given(x, "43 both ways", x.ties(), ties);
            }
        }
        CHECK.given(x, "43 the most", x.ties(), 15);
        for (int a = 0; a < 6; a++) {
            for (int b = a + 1; b < 6; b++) {
                x.quits(a, b);
                ties--;
                CHECK.given(x, "43 quits", x.ties(), ties);
            }
        }
        CHECK.given(new LetMe(), "43 nobody", new LetMe().ties(), 0);
    }

    /** "The least BALANCE (what 0), the greatest (1) (1; 6: nobody)." */
    private static void extremeWhat() {
        Still still = new Still(CHECK, Still::richAndFed);
        Still nobody = new Still(CHECK, LetMe::new);
        for (int what : new int[] {LEAST, -2, -1, 2, 3, MOST}) {
            still.refused("44 what " + what, x -> x.extreme(what), 1);
            nobody.refused("44 what " + what + ", ahead of 6", x -> x.extreme(what), 1);
        }
        nobody.refused("44 nobody", x -> x.extreme(0), 6);
        nobody.refused("44 nobody", x -> x.extreme(1), 6);
        still.given("44 the least", x -> x.extreme(0), 0);
        still.given("44 the greatest", x -> x.extreme(1), 1);
    }

    private static void extremeOfSeveral() {
        LetMe x = Check.at(SIX + "owes b e 5;owes c f 5;owes d a 1;");
        CHECK.given(x, "44 the least of two", x.extreme(0), 1);
        CHECK.given(x, "44 the greatest of two", x.extreme(1), 4);
        LetMe same = Check.at(SIX);
        CHECK.given(same, "44 all alike", same.extreme(0), 0);
        CHECK.given(same, "44 all alike", same.extreme(1), 0);
        LetMe ends = Check.at(SIX + "owes a f 1;");
        CHECK.given(ends, "44 the first", ends.extreme(0), 0);
        CHECK.given(ends, "44 the last", ends.extreme(1), 5);
    }

    private static void simplifyOfNone() {
        LetMe nobody = new LetMe();
        CHECK.given(nobody, "45 nobody", nobody.simplify(), 0);
        LetMe one = Check.at("person a;");
        CHECK.given(one, "45 alone", one.simplify(), 0);
        LetMe ring = Check.at(SIX + "owes a b 7;owes b c 7;owes c a 7;owes e f 3;owes f e 3;");
        CHECK.given(ring, "45 all are 0 without", ring.simplify(), 0);
        CHECK.given(ring, "43 none are left", ring.ties(), 0);
        LetMe both = Check.at("person a;person b;owes a b 7;owes b a 9;");
        CHECK.given(both, "45 both ways", both.simplify(), 1);
        CHECK.given(both, "45 the rest", both.owes(1, 0), 2);
        CHECK.given(both, "45 not the other way", both.owes(0, 1), 0);
    }

    /** b OWES a 999,999, and by c so much more. */
    private static LetMe both(int more) {
        LetMe x = Check.at("person a;person b;person c;");
        PayersEdgesTest.lend(x, 0, 1, 999_999 - 5);
        PayersEdgesTest.lend(x, 0, 2, more);
        PayersEdgesTest.lend(x, 2, 1, more);
        return x;
    }

    private static void simplifyJustTheMost() {
        LetMe x = both(5);
        CHECK.given(x, "45 just the most", x.simplify(), 1);
        CHECK.given(x, "38 just the most", x.owes(1, 0), 999_999);
        CHECK.given(x, "38 none by c", x.owes(1, 2), 0);
        CHECK.given(x, "38 none of c", x.owes(2, 0), 0);
    }

    /** Two OWE more than 1,000,000 in all, to two who are owed as much; each debt alone is less. */
    private static LetMe two() {
        LetMe x = Check.at("person a;person b;person c;person d;person e;");
        PayersEdgesTest.lend(x, 0, 1, 600_000);
        PayersEdgesTest.lend(x, 0, 2, 600_000);
        PayersEdgesTest.lend(x, 3, 1, 500_000);
        PayersEdgesTest.lend(x, 3, 2, 500_000);
        PayersEdgesTest.lend(x, 4, 1, 9_999);
        return x;
    }

    /** "7: one would OWE another one more than 999,999." */
    private static void simplifyTooMuch() {
        new Still(CHECK, () -> both(6)).refused("45 too much by 1", LetMe::simplify, 7);
        new Still(CHECK, () -> both(9_999)).refused("45 too much", LetMe::simplify, 7);
        new Still(CHECK, DebtsEdgesTest::two).refused("45 too much of two", LetMe::simplify, 7);
        // more than 999,999 in all, but not of one to another
        LetMe x = Check.at("person a;person b;person c;");
        PayersEdgesTest.lend(x, 0, 1, 999_999);
        PayersEdgesTest.lend(x, 0, 2, 999_999);
        CHECK.given(x, "45 of two", x.simplify(), 2);
        CHECK.given(x, "38 of two", x.owes(1, 0), 999_999);
        CHECK.given(x, "38 of two", x.owes(2, 0), 999_999);
    }

    /** "One by one the least BALANCE OWES the greatest one the lesser of both, of several the first." */
    private static void simplifyOfSeveral() {
        LetMe x = Check.at("person a;person b;person c;person d;owes a c 5;owes b d 5;");
        CHECK.given(x, "45 two and two", x.simplify(), 2);
        CHECK.given(x, "38 first to first", x.owes(0, 2), 5);
        CHECK.given(x, "38 second to second", x.owes(1, 3), 5);
        LetMe y = Check.at("person a;person b;person c;person d;owes a d 5;owes b c 5;");
        CHECK.given(y, "45 two and two", y.simplify(), 2);
        CHECK.given(y, "38 first to first", y.owes(0, 2), 5);
        CHECK.given(y, "38 second to second", y.owes(1, 3), 5);
        CHECK.given(y, "38 no more", y.owes(0, 3), 0);
        LetMe z = Check.at("person a;person b;person c;person d;owes a b 1;owes a c 6;owes d c 4;");
        CHECK.given(z, "45 three", z.simplify(), 3);
        CHECK.given(z, "38 the least to the greatest", z.owes(0, 2), 7);
        CHECK.given(z, "38 then the least to the greatest", z.owes(3, 2), 3);
        CHECK.given(z, "38 then the last", z.owes(3, 1), 1);
        LetMe five = Check.at(SIX + "owes a f 1;owes b f 2;owes c f 4;owes d f 8;owes e f 16;");
        CHECK.given(five, "45 five", five.simplify(), 5);
    }

    /** "(Not itself)." */
    private static void chainNotItself() {
        LetMe x = Check.at("person a;person b;person c;owes a b 1;owes b a 1;");
        CHECK.given(x, "46 both ways", x.chain(0), 2);
        CHECK.given(x, "46 both ways", x.chain(1), 1);
        CHECK.given(x, "46 none", x.chain(2), 0);
        LetMe y = Check.at("person a;person b;person c;owes a b 1;owes b c 1;owes c b 1;");
        CHECK.given(y, "46 a ring behind", y.chain(0), 6);
        CHECK.given(y, "46 within the ring", y.chain(1), 4);
    }

    private static void chainOfAll() {
        String names = "abcdef";
        // each way round, so that no order of looking is enough
        int[][] orders = {{0, 1, 2, 3, 4, 5}, {5, 4, 3, 2, 1, 0}, {3, 0, 5, 1, 4, 2}, {2, 5, 0, 4, 1, 3}};
        for (int[] order : orders) {
            StringBuilder text = new StringBuilder(SIX);
            for (int i = 0; i < 5; i++) {
                text.append("owes ").append(names.charAt(order[i])).append(' ').append(names.charAt(order[i + 1])).append(" 1;");
            }
            LetMe x = Check.at(text.toString());
            int set = 0;
            for (int i = 5; i >= 0; i--) {
                CHECK.given(x, "46 behind " + order[i], x.chain(order[i]), set);
                set |= 1 << order[i];
            }
            x.lend(order[0], order[5], 1);
            for (int i = 0; i < 6; i++) {
                CHECK.given(x, "46 a ring of all", x.chain(i), 63 & ~(1 << i));
            }
        }
    }

    /** "Of n pence (1 to 99)." */
    private static void penceAHead() {
        Still still = new Still(CHECK, Still::richAndFed);
        for (int n : new int[] {LEAST, -1, 0, 100, 101, MOST}) {
            still.refused("47 n " + n, x -> x.even(n), 1);
            still.refused("48 n " + n, x -> x.evenBy(n, 0), 1);
        }
        for (int n : new int[] {1, 2, 98, 99}) {
            LetMe x = Check.at("person a;person b;person c guest;owes b a " + n + ";");
            CHECK.given(x, "47 n " + n, x.even(n), 1);
            CHECK.given(x, "48 n " + n, x.evenBy(n, 0), 0);
            CHECK.given(x, "48 n " + n, x.evenBy(n, 1), 1);
            CHECK.given(x, "48 a guest never", x.evenBy(n, 2), 0);
        }
    }

    private static void evenOfNone() {
        LetMe nobody = new LetMe();
        CHECK.given(nobody, "47 nobody", nobody.even(1), 0);
        CHECK.given(nobody, "47 nobody", nobody.even(99), 0);
        CHECK.refused(nobody, "48 nobody", nobody.evenBy(1, 0), 1);
        CHECK.refused(nobody, "47 nobody, n 0", nobody.even(0), 1);
        LetMe x = Check.at(SIX);
        CHECK.given(x, "47 even already", x.even(1), 0);
        for (int i = 0; i < 6; i++) {
            CHECK.given(x, "48 even already", x.evenBy(1, i), 0);
        }
    }

    private static LetMe owed(int much) {
        LetMe x = Check.at("person a;person b;person c guest;");
        PayersEdgesTest.lend(x, 0, 1, much);
        return x;
    }

    /** "6: not by 99", of a GUEST, too. */
    private static void evenByNinetyNine() {
        for (int n : new int[] {1, 7, 99}) {
            LetMe x = owed(99 * n);
            CHECK.given(x, "47 by 99", x.even(n), 99);
            CHECK.given(x, "48 by 99", x.evenBy(n, 0), 0);
            CHECK.given(x, "48 by 99", x.evenBy(n, 1), 99);
            CHECK.given(x, "48 by 99, a guest", x.evenBy(n, 2), 0);
            Still still = new Still(CHECK, () -> owed(100 * n));
            still.refused("47 by 100", y -> y.even(n), 6);
            for (int person = 0; person < 3; person++) {
                int who = person;
                still.refused("48 by 100", y -> y.evenBy(n, who), 6);
            }
            still.refused("48 1 ahead of 6", y -> y.evenBy(n, 3), 1);
        }
        LetMe z = Check.at("person a;person b;person c;");
        PayersEdgesTest.lend(z, 0, 1, 98);
        CHECK.refused(z, "47 three of them, not by so few", z.even(2), 6);
        PayersEdgesTest.lend(z, 0, 2, 98);
        CHECK.given(z, "47 three of them, by 98", z.even(2), 98);
        CHECK.given(z, "48 by 49", z.evenBy(2, 2), 49);
    }

    private static void evenOfUnlikeBalances() {
        Still still = new Still(CHECK, () -> owed(5));
        for (int n : new int[] {2, 3, 4, 6, 10, 99}) {
            still.refused("47 not by " + n, x -> x.even(n), 6);
        }
        still.given("47 by 5", x -> x.even(5), 1);
        still.given("47 by 1", x -> x.even(1), 5);
        LetMe three = Check.at("person a;person b;person c;owes b a 3;");
        CHECK.given(three, "47 others must pay, too", three.even(1), 3);
        CHECK.given(three, "48 a", three.evenBy(1, 0), 0);
        CHECK.given(three, "48 b", three.evenBy(1, 1), 2);
        CHECK.given(three, "48 c", three.evenBy(1, 2), 1);
        CHECK.refused(three, "47 what is owed of three is too few thirds", three.even(3), 6);
    }

    /** "Those of GUESTS do not matter." */
    private static void evenOfGuests() {
        LetMe x = Check.at("person a;person b;person g guest;person h guest;owes g h 7;");
        CHECK.given(x, "47 guests alone owe", x.even(5), 0);
        x.lend(0, 1, 5);
        CHECK.given(x, "47 by one", x.even(5), 1);
        x.lend(2, 0, 1);
        CHECK.refused(x, "47 owing a guest", x.even(5), 6);
        x.gift(2, 0, 1);
        CHECK.given(x, "47 no more", x.even(5), 1);
        LetMe all = Check.at("person a guest;person b guest;owes b a 5;");
        CHECK.given(all, "47 all are guests: heads", all.even(5), 1);
        CHECK.given(all, "48 all are guests: heads", all.evenBy(5, 1), 1);
        LetMe one = Check.at("person a;person g guest;");
        CHECK.given(one, "47 the only head", one.even(9), 0);
        one.lend(0, 1, 9);
        CHECK.refused(one, "47 the only head is owed", one.even(9), 6);
        CHECK.refused(one, "48 the only head is owed, a guest", one.evenBy(9, 1), 6);
    }

    private static void evenOfSix() {
        LetMe x = Check.at(SIX);
        // three dinners by each but the last, who has paid for none of them
        x.order(60, LetMe.NONE);
        for (int i = 0; i < 15; i++) {
            x.pay(i % 5);
        }
        CHECK.given(x, "47 the last one pays as often", x.even(10), 3);
        for (int i = 0; i < 6; i++) {
            CHECK.given(x, "48 the last one alone", x.evenBy(10, i), i == 5 ? 3 : 0);
        }
        CHECK.given(x, "47 at half the price", x.even(5), 6);
        CHECK.given(x, "47 at a tenth of it", x.even(1), 30);
        for (int i = 0; i < 49; i++) {
            x.pay(i % 5);
        }
        CHECK.given(x, "47 one has paid less", x.even(10), 14);
        CHECK.given(x, "48 he once", x.evenBy(10, 4), 1);
        CHECK.given(x, "48 the last one", x.evenBy(10, 5), 13);
    }
}
