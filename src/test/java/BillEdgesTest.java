/** The bounds that the document names for promises 16 to 27: the BILL. */
public final class BillEdgesTest {
    private static final Check CHECK = new Check("BillEdgesTest");
    private static final int LEAST = Integer.MIN_VALUE;
    private static final int MOST = Integer.MAX_VALUE;
    private static final int[] NOBODY = {LEAST, -2, -1, 4, 5, 6, MOST};
    private static final int[] NO_SPLIT = {LEAST, -2, -1, 3, 4, MOST};
    private static final String SIX = "person a;person b;person c;person d;person e;person f;";

    public static void main(String[] args) {
        noSuchPersonOrSplit();
        commonDishes();
        byHeads();
        byHeadsWithGuests();
        guestsOnTop();
        allAreGuests();
        units();
        unitsOfGuests();
        withoutPeople();
        withoutDishes();
        unfair();
        fairestOfSeveral();
        dearerTellsMinusOne();
        hardestOfSeveral();
        priceToOrder();
        personToOrder();
        sixteenDishes();
        strikeToNone();
        splits();
        laws();
        amounts();
        secondOfTheMost();
        noneSuch();
        leastOfTheFewest();
        padded();
        CHECK.finish();
    }

    private static void noSuchPersonOrSplit() {
        Still still = new Still(CHECK, Still::richAndFed);
        for (int person : NOBODY) {
            still.refused("16 person " + person, x -> x.eaten(person), 1);
            still.refused("17 person " + person, x -> x.due(person, 0), 1);
            still.refused("20 person " + person, x -> x.dearer(person, 0, 1), 1);
        }
        for (int split : NO_SPLIT) {
            still.refused("17 split " + split, x -> x.due(0, split), 1);
            still.refused("18 split " + split, x -> x.unfair(split), 1);
            still.refused("20 split " + split, x -> x.dearer(0, split, 1), 1);
            still.refused("20 other " + split, x -> x.dearer(0, 1, split), 1);
            still.refused("21 split " + split, x -> x.hardest(split), 1);
            still.denied("24 split " + split, x -> x.split(split), 1);
        }
        for (int law : new int[] {LEAST, -2, -1, 4, 5, MOST}) {
            still.denied("25 law " + law, x -> x.law(law), 1);
        }
        int[] eaten = {92, 2, 32, 13};
        int[][] dues = {{47, 46, 0, 46}, {103, 13, 0, 23}, {70, 0, 0, 69}};
        int[] unfair = {45 + 44 + 32 + 33, 11 + 11 + 32 + 10, 22 + 2 + 32 + 56};
        for (int person = 0; person < 4; person++) {
            int who = person;
            still.given("16 eaten " + who, x -> x.eaten(who), eaten[who]);
            for (int split = 0; split < 3; split++) {
                int by = split;
                still.given("17 due " + who + " by " + by, x -> x.due(who, by), dues[by][who]);
                still.given("20 dearer " + who + " by " + by, x -> x.dearer(who, by, (by + 1) % 3), dues[by][who] - dues[(by + 1) % 3][who]);
            }
        }
        for (int split = 0; split < 3; split++) {
            int by = split;
            still.given("18 unfair " + by, x -> x.unfair(by), unfair[by]);
            still.given("21 hardest " + by, x -> x.hardest(by), 0);
        }
        still.given("19 fairest", LetMe::fairest, 1);
    }

    private static void eaten(LetMe x, String call, int... wants) {
        for (int i = 0; i < wants.length; i++) {
            CHECK.given(x, call + " of " + i, x.eaten(i), wants[i]);
        }
    }

    private static void dues(LetMe x, String call, int split, int... wants) {
        for (int i = 0; i < wants.length; i++) {
            CHECK.given(x, call + " by " + split + " of " + i, x.due(i, split), wants[i]);
        }
    }

    /** "Of all COMMON ones together divided by all PEOPLE, rounded down, each; what is left by 1 each, the first ones first." */
    private static void commonDishes() {
        int[][] wants = {{1, 0, 0, 0, 0, 0}, {1, 1, 1, 1, 1, 0}, {1, 1, 1, 1, 1, 1}, {2, 1, 1, 1, 1, 1}, {2, 2, 2, 2, 2, 1}, {2, 2, 2, 2, 2, 2}};
        int[] prices = {1, 5, 6, 7, 11, 12};
        for (int i = 0; i < prices.length; i++) {
            eaten(Check.at(SIX + "dish " + prices[i] + ";"), "16 common " + prices[i], wants[i]);
        }
        // together: each of them alone would be left over to the first ones
        eaten(Check.at(SIX + "dish 1;".repeat(6)), "16 six of 1", 1, 1, 1, 1, 1, 1);
        eaten(Check.at("person a guest;person b;person c;dish 1;dish 1;dish 8 by c;"), "16 a guest, too", 1, 1, 8);
        eaten(Check.at("person a;dish 1;dish 999;dish 3 by a;"), "16 alone", 1_003);
        eaten(Check.at(SIX + "dish 999;".repeat(16)), "16 the most", 2_664, 2_664, 2_664, 2_664, 2_664, 2_664);
        eaten(Check.at(SIX + "dish 999 by f;".repeat(16)), "16 the most by one", 0, 0, 0, 0, 0, 15_984);
    }

    /** "BY HEADS: divided by HEADS, rounded down, each; what is left by 1 each, the first ones first." */
    private static void byHeads() {
        int[][] wants = {{1, 0, 0, 0, 0, 0}, {1, 1, 1, 1, 1, 0}, {1, 1, 1, 1, 1, 1}, {2, 1, 1, 1, 1, 1}, {167, 167, 167, 166, 166, 166}};
        int[] prices = {1, 5, 6, 7, 999};
        for (int i = 0; i < prices.length; i++) {
            dues(Check.at(SIX + "dish " + prices[i] + " by f;"), "17 heads " + prices[i], 0, wants[i]);
        }
    }

    private static void byHeadsWithGuests() {
        LetMe x = Check.at("person a guest;person b;person c guest;person d;person e;dish 5 by a;");
        dues(x, "17 guests 0", 0, 0, 2, 0, 2, 1);
        LetMe y = Check.at("person a guest;person b guest;person c;dish 5 by a;");
        dues(y, "17 one head", 0, 0, 0, 5);
    }

    /** "What GUESTS ate is BY HEADS on top of it, a GUEST 0." */
    private static void guestsOnTop() {
        LetMe x = Check.at("person a guest;person b;person c guest;person d;person e;dish 3 by a;dish 2 by c;dish 10 by e;");
        dues(x, "17 on top", 1, 0, 2, 0, 2, 11);
        LetMe y = Check.at("person a guest;person b;person c;dish 1 by a;");
        dues(y, "17 the first head", 1, 0, 1, 0);
        // what was left of the COMMON ones and what is left of the GUESTS' are two leftovers
        LetMe z = Check.at("person a;person b guest;person c;dish 5;");
        dues(z, "17 two leftovers", 1, 3, 0, 2);
        LetMe v = Check.at("person a;person b guest;person c;dish 4;");
        dues(v, "17 two leftovers", 1, 3, 0, 1);
    }

    /** "But if all are GUESTS: EATEN." */
    private static void allAreGuests() {
        LetMe x = Check.at("person a guest;person b guest;dish 5;dish 9 by b;couple b a;");
        dues(x, "17 all are guests", 0, 7, 7);
        dues(x, "17 all are guests", 1, 3, 11);
        dues(x, "17 all are guests", 2, 14, 0);
    }

    /** "A COUPLE is one (the first numbered of them pays), each other of the HEADS one; divided as BY HEADS, by who pays." */
    private static void units() {
        LetMe x = Check.at("person a;person b;person c;person d;person e;couple d a;couple e c;dish 101;");
        dues(x, "17 three units", 2, 34, 34, 33, 0, 0);
        LetMe y = Check.at(SIX + "couple f e;couple d c;couple b a;dish 5;");
        dues(y, "17 three couples", 2, 2, 0, 2, 0, 1, 0);
        LetMe z = Check.at(SIX + "dish 7;");
        dues(z, "17 no couples", 2, 2, 1, 1, 1, 1, 1);
        LetMe v = Check.at("person a;person b;couple b a;dish 7 by b;");
        dues(v, "17 one unit", 2, 7, 0);
    }

    /** "Both of them HEADS." */
    private static void unitsOfGuests() {
        LetMe x = Check.at("person a guest;person b;person c;person d;couple a b;couple c d;dish 9;");
        dues(x, "17 a guest first", 2, 0, 5, 4, 0);
        LetMe y = Check.at("person a;person b guest;person c;couple b a;dish 9;");
        dues(y, "17 a guest second", 2, 5, 0, 4);
        LetMe z = Check.at("person a guest;person b guest;person c;couple a b;dish 9;");
        dues(z, "17 both guests", 2, 0, 0, 9);
    }

    /** "All DUES are the BILL (0 without PEOPLE)." */
    private static void withoutPeople() {
        LetMe x = Check.at("dish 50;dish 7;");
        CHECK.given(x, "13 the bill", x.told(5), 57);
        for (int split = 0; split < 3; split++) {
            CHECK.given(x, "18 nobody", x.unfair(split), 0);
            CHECK.refused(x, "17 nobody", x.due(0, split), 1);
            CHECK.refused(x, "21 nobody", x.hardest(split), 6);
        }
        CHECK.refused(x, "16 nobody", x.eaten(0), 1);
        CHECK.refused(x, "20 nobody", x.dearer(0, 0, 1), 1);
        CHECK.refused(x, "21 1 ahead of 6", x.hardest(3), 1);
        CHECK.refused(x, "21 1 ahead of 6", x.hardest(-1), 1);
        CHECK.given(x, "19 nobody", x.fairest(), 0);
        CHECK.given(x, "26 nobody is needed", x.second(57, 0), 2);
        CHECK.given(x, "27 nobody is needed", x.padded(58), 1);
        new Still(CHECK, () -> Check.at("dish 50;")).refused("21 nobody", y -> y.hardest(1), 6);
    }

    private static void withoutDishes() {
        LetMe x = Check.at(SIX);
        for (int split = 0; split < 3; split++) {
            dues(x, "17 no dishes", split, 0, 0, 0, 0, 0, 0);
            CHECK.given(x, "18 no dishes", x.unfair(split), 0);
            CHECK.given(x, "21 no dishes", x.hardest(split), 0);
        }
        eaten(x, "16 no dishes", 0, 0, 0, 0, 0, 0);
        CHECK.given(x, "19 no dishes", x.fairest(), 0);
        CHECK.given(x, "28 paid for nothing", x.pay(0), 1);
        CHECK.given(x, "43 nobody owes", x.ties(), 0);
    }

    private static void unfair() {
        LetMe x = Check.at(SIX + "dish 999 by a;".repeat(16));
        CHECK.given(x, "18 the most", x.unfair(0), 13_320 + 5 * 2_664);
        CHECK.given(x, "18 none", x.unfair(1), 0);
        LetMe y = Check.at("person a guest;person b;dish 999 by a;");
        CHECK.given(y, "18 a guest", y.unfair(0), 1_998);
        CHECK.given(y, "18 a guest", y.unfair(1), 1_998);
    }

    /** "Of several the first." */
    private static void fairestOfSeveral() {
        LetMe all = Check.at("person a;person b;dish 30;");
        CHECK.given(all, "19 all alike", all.fairest(), 0);
        LetMe two = Check.at("person a;person b;couple a b;dish 30 by a;");
        CHECK.given(two, "18 heads", two.unfair(0), 30);
        CHECK.given(two, "18 eaten", two.unfair(1), 0);
        CHECK.given(two, "18 couples", two.unfair(2), 0);
        CHECK.given(two, "19 the last two alike", two.fairest(), 1);
        LetMe ends = Check.at("person a guest;person b;person c;dish 60 by a;dish 2 by b;dish 2 by c;");
        CHECK.given(ends, "18 heads as eaten, as couples", ends.unfair(0), ends.unfair(2));
        CHECK.given(ends, "19 the first", ends.fairest(), 0);
        LetMe last = Check.at("person a;person b;person c guest;person d guest;couple a b;dish 90 by a;dish 30 by c;");
        CHECK.given(last, "18 heads", last.unfair(0), 30 + 60 + 30);
        CHECK.given(last, "18 eaten", last.unfair(1), 60);
        CHECK.given(last, "18 couples", last.unfair(2), 60);
        CHECK.given(last, "19 the middle one", last.fairest(), 1);
        LetMe couples = Check.at("person a;person b;person c guest;couple a b;dish 4 by a;dish 3 by c;dish 2;");
        CHECK.given(couples, "18 heads", couples.unfair(0), 3 + 3);
        CHECK.given(couples, "18 eaten", couples.unfair(1), 2 + 1 + 3);
        CHECK.given(couples, "18 couples", couples.unfair(2), 4 + 1 + 3);
        CHECK.given(couples, "19 the first two alike", couples.fairest(), 0);
    }

    /** "STATUS tells NONE from -1." */
    private static void dearerTellsMinusOne() {
        LetMe x = Check.at("person a;person b;dish 1 by b;");
        x.told(-1);
        CHECK.given(x, "20 -1", x.dearer(1, 0, 1), -1);
        CHECK.given(x, "20 1", x.dearer(1, 1, 0), 1);
        CHECK.given(x, "20 1", x.dearer(0, 0, 1), 1);
        CHECK.given(x, "20 0", x.dearer(0, 0, 0), 0);
        CHECK.refused(x, "20 NONE", x.dearer(1, 0, 3), 1);
        LetMe y = Check.at("person a guest;person b;" + "dish 999 by a;".repeat(16));
        CHECK.given(y, "20 the most", y.dearer(1, 1, 0), 0);
        CHECK.given(y, "20 a guest", y.dearer(0, 1, 0), 0);
        LetMe z = Check.at("person a;person b;couple a b;" + "dish 999 by b;".repeat(16));
        CHECK.given(z, "20 the most", z.dearer(0, 2, 1), 15_984);
        CHECK.given(z, "20 the least", z.dearer(1, 2, 1), -15_984);
    }

    private static void hardestOfSeveral() {
        LetMe x = Check.at("person a guest;person b;person c;person d;dish 9 by d;dish 9 by c;dish 3;");
        CHECK.given(x, "21 the first", x.hardest(0), 1);
        CHECK.given(x, "21 the first", x.hardest(1), 2);
        CHECK.given(x, "21 the first", x.hardest(2), 1);
        LetMe last = Check.at(SIX + "dish 5 by f;");
        CHECK.given(last, "21 the last", last.hardest(1), 5);
        LetMe guests = Check.at("person a guest;person b;");
        CHECK.given(guests, "21 all 0", guests.hardest(0), 0);
    }

    /** "1: price 1 to 999." */
    private static void priceToOrder() {
        Still still = new Still(CHECK, Still::richAndFed);
        for (int price : new int[] {LEAST, -1, 0, 1_000, 1_001, MOST}) {
            still.refused("22 price " + price, x -> x.order(price, 0), 1);
            still.refused("22 price " + price + ", common", x -> x.order(price, LetMe.NONE), 1);
        }
        LetMe x = Still.richAndFed();
        int many = 4;
        for (int price : new int[] {1, 2, 998, 999}) {
            many++;
            CHECK.given(x, "22 price " + price, x.order(price, 2), many);
            CHECK.given(x, "15 price " + price, x.dish(many - 1, 0), price);
        }
        CHECK.given(x, "13 the bill", x.told(5), 139 + 2_000);
    }

    /** "Had by a person, or COMMON (NONE)." */
    private static void personToOrder() {
        Still still = new Still(CHECK, Still::richAndFed);
        for (int person : new int[] {LEAST, -3, -2, 4, 5, MOST}) {
            still.refused("22 person " + person, x -> x.order(5, person), 1);
        }
        LetMe x = Still.richAndFed();
        for (int person = 0; person < 4; person++) {
            CHECK.given(x, "22 person " + person, x.order(5, person), 5 + person);
            CHECK.given(x, "15 person " + person, x.dish(4 + person, 1), person);
        }
        CHECK.given(x, "22 common", x.order(5, LetMe.NONE), 9);
        CHECK.refused(x, "15 common", x.dish(8, 1), 6);
        LetMe nobody = new LetMe();
        CHECK.refused(nobody, "22 nobody", nobody.order(5, 0), 1);
        CHECK.given(nobody, "22 common", nobody.order(5, -1), 1);
    }

    private static LetMe sixteen() {
        LetMe x = Still.rich();
        for (int i = 5; i <= 16; i++) {
            CHECK.given(x, "22 the next", x.order(i, LetMe.NONE), i);
        }
        return x;
    }

    /** "4 one too many": behind 1. */
    private static void sixteenDishes() {
        Still still = new Still(CHECK, BillEdgesTest::sixteen);
        still.refused("22 a 17th", x -> x.order(5, 0), 4);
        still.refused("22 a 17th, common", x -> x.order(5, LetMe.NONE), 4);
        still.refused("22 1 ahead of 4", x -> x.order(0, 0), 1);
        still.refused("22 1 ahead of 4", x -> x.order(1_000, 0), 1);
        still.refused("22 1 ahead of 4", x -> x.order(5, 4), 1);
        LetMe x = sixteen();
        CHECK.given(x, "23 the 16th", x.strike(), 16);
        CHECK.given(x, "22 the 16th again", x.order(999, 3), 16);
        CHECK.refused(x, "22 a 17th", x.order(1, 3), 4);
    }

    /** "6: none." */
    private static void strikeToNone() {
        LetMe x = Still.rich();
        int[] prices = {12, 30, 7, 90};
        int bill = 139;
        for (int i = 0; i < prices.length; i++) {
            CHECK.given(x, "23 the latest", x.strike(), prices[i]);
            bill -= prices[i];
            CHECK.given(x, "13 the bill", x.told(5), bill);
            CHECK.given(x, "13 dishes", x.told(2), 3 - i);
        }
        CHECK.refused(x, "23 none", x.strike(), 6);
        CHECK.refused(x, "23 none again", x.strike(), 6);
        CHECK.given(x, "22 the first again", x.order(8, 1), 1);
        CHECK.given(x, "23 it", x.strike(), 8);
        new Still(CHECK, () -> Check.at(SIX)).refused("23 none", LetMe::strike, 6);
        new Still(CHECK, LetMe::new).refused("23 none", LetMe::strike, 6);
    }

    /** "The SPLIT is another one (0 to 2)", and nothing else is. */
    private static void splits() {
        for (int split = 0; split < 3; split++) {
            LetMe x = Check.at(SIX + "couple a b;dish 7 by a;law quick;");
            CHECK.granted(x, "24 split " + split, x.split(split));
            CHECK.given(x, "13 split " + split, x.told(3), split);
            CHECK.given(x, "13 law", x.told(4), 2);
            int due = x.due(2, split);
            x.pay(0);
            CHECK.given(x, "28 by split " + split, x.owes(2, 0), due);
        }
    }

    private static void laws() {
        int[] wants = {2, 1, 0, 3};
        for (int law = 0; law < 4; law++) {
            LetMe x = Check.at("person a quick 5;person b;person c;person d insists 5;owes b c 5;split eaten;");
            x.pay(0);
            x.pay(1);
            CHECK.granted(x, "25 law " + law, x.law(law));
            CHECK.given(x, "13 law " + law, x.told(4), law);
            CHECK.given(x, "13 split", x.told(3), 1);
            CHECK.given(x, "29 by law " + law, x.turn(), wants[law]);
        }
    }

    /** "A told amount (1 to 9,999)"; what 0 to 2. */
    private static void amounts() {
        Still still = new Still(CHECK, Still::richAndFed);
        for (int amount : new int[] {LEAST, -1, 0, 10_000, 10_001, MOST}) {
            for (int what = 0; what < 3; what++) {
                int each = what;
                still.refused("26 amount " + amount, x -> x.second(amount, each), 1);
            }
        }
        for (int what : new int[] {LEAST, -1, 3, 4, MOST}) {
            still.refused("26 what " + what, x -> x.second(12, what), 1);
            still.refused("26 what " + what + ", ahead of 6", x -> x.second(1, what), 1);
        }
        still.given("26 one", x -> x.second(12, 0), 1);
        still.given("26 one set", x -> x.second(12, 1), 1);
        still.given("26 the fourth", x -> x.second(12, 2), 8);
        still.given("26 all", x -> x.second(139, 0), 4);
        still.given("26 all", x -> x.second(139, 2), 15);
    }

    private static void secondOfTheMost() {
        LetMe one = Check.at("dish 1;");
        CHECK.given(one, "26 amount 1", one.second(1, 0), 1);
        CHECK.given(one, "26 amount 1", one.second(1, 2), 1);
        LetMe most = Check.at("dish 999;".repeat(10) + "dish 9;dish 1;");
        CHECK.given(most, "26 amount 9,999", most.second(9_999, 0), 11);
        CHECK.given(most, "26 amount 9,999", most.second(9_999, 1), 1);
        CHECK.given(most, "26 amount 9,999", most.second(9_999, 2), 2_047);
        CHECK.refused(most, "26 amount 10,000", most.second(10_000, 0), 1);
        LetMe all = Check.at("dish 1;".repeat(16));
        CHECK.given(all, "26 all sixteen", all.second(16, 0), 16);
        CHECK.given(all, "26 all sixteen", all.second(16, 2), 65_535);
        CHECK.given(all, "26 eight of sixteen", all.second(8, 1), 12_870);
        CHECK.given(all, "26 one of sixteen", all.second(1, 1), 16);
        CHECK.refused(all, "26 more than all", all.second(17, 1), 6);
    }

    /** "6: none, also for what 1." */
    private static void noneSuch() {
        Still still = new Still(CHECK, Still::richAndFed);
        for (int what = 0; what < 3; what++) {
            int each = what;
            for (int amount : new int[] {1, 6, 8, 138, 140, 9_999}) {
                still.refused("26 none of " + amount, x -> x.second(amount, each), 6);
            }
        }
        new Still(CHECK, LetMe::new).refused("26 no dishes", x -> x.second(1, 1), 6);
    }

    /** "Of the fewest the least set as a number." */
    private static void leastOfTheFewest() {
        LetMe x = Check.at("dish 4;dish 3;dish 2;dish 1;dish 5;dish 3;");
        CHECK.given(x, "26 one of 5", x.second(5, 0), 1);
        CHECK.given(x, "26 the set of 5 alone", x.second(5, 2), 16);
        CHECK.given(x, "26 sets of any size", x.second(5, 1), 4);
        CHECK.given(x, "26 two of 7", x.second(7, 0), 2);
        CHECK.given(x, "26 the least set of 7", x.second(7, 2), 3);
        CHECK.given(x, "26 one of 3", x.second(3, 2), 2);
        LetMe y = Check.at("dish 2;dish 6;dish 4;dish 5;dish 3;");
        CHECK.given(y, "26 8 of two", y.second(8, 0), 2);
        CHECK.given(y, "26 2 and 6 ahead of 5 and 3", y.second(8, 2), 3);
        CHECK.given(y, "26 9 of two", y.second(9, 2), 12);
    }

    /** "A told amount (0 to 99,999)"; "STATUS tells NONE from -1". */
    private static void padded() {
        Still still = new Still(CHECK, Still::richAndFed);
        for (int amount : new int[] {LEAST, -2, -1, 100_000, 100_001, MOST}) {
            still.refused("27 amount " + amount, x -> x.padded(amount), 1);
        }
        for (int amount : new int[] {0, 1, 138, 139, 140, 99_998, 99_999}) {
            still.given("27 amount " + amount, x -> x.padded(amount), amount - 139);
        }
        LetMe full = Check.at("dish 999;".repeat(16));
        CHECK.given(full, "27 the least", full.padded(0), -15_984);
        LetMe none = new LetMe();
        CHECK.given(none, "27 of nothing", none.padded(0), 0);
        CHECK.given(none, "27 of nothing", none.padded(99_999), 99_999);
        CHECK.refused(none, "27 of nothing", none.padded(-1), 1);
    }
}
