/** The bounds that the document names for promises 13 to 15: what is told of all, of a person, of a DISH. */
public final class FactsEdgesTest {
    private static final Check CHECK = new Check("FactsEdgesTest");
    private static final int LEAST = Integer.MIN_VALUE;
    private static final int MOST = Integer.MAX_VALUE;
    private static final String SIX = "person a;person b;person c;person d;person e;person f;";

    public static void main(String[] args) {
        whatIsTold();
        noneOfAll();
        theMostOfAll();
        heads();
        paidRoundsGifts();
        inAndOut();
        whatOfAPerson();
        noSuchPerson();
        couples();
        couplesOfGuests();
        paidByOne();
        whatOfADish();
        noSuchDish();
        CHECK.finish();
    }

    /** "1": what is 0 to 11. */
    private static void whatIsTold() {
        Still still = new Still(CHECK, Still::richAndFed);
        for (int what : new int[] {LEAST, -2, -1, 12, 13, MOST}) {
            still.refused("13 told(" + what + ")", x -> x.told(what), 1);
        }
        int[] wants = {4, 1, 4, 2, 3, 139, 3, 3, 4, 1, 4, 7};
        for (int what = 0; what < wants.length; what++) {
            int each = what;
            still.given("13 told(" + what + ")", x -> x.told(each), wants[what]);
        }
    }

    private static void noneOfAll() {
        LetMe x = new LetMe();
        for (int what = 0; what <= 11; what++) {
            CHECK.given(x, "13 nobody told(" + what + ")", x.told(what), 0);
        }
    }

    private static void theMostOfAll() {
        String all = "person a guest;person b guest;person c guest;person d guest;person e guest;person f guest;couple a f;couple b e;couple c d;"
            + "dish 999;".repeat(16) + "split couples;law insists;";
        LetMe x = Check.at(all);
        int[] wants = {6, 3, 16, 2, 3, 15_984, 6, 0, 0, 0, 63, 63};
        for (int what = 0; what < wants.length; what++) {
            CHECK.given(x, "13 the most told(" + what + ")", x.told(what), wants[what]);
        }
    }

    /** "HEADS: all PEOPLE that are no GUESTS (all, if all are GUESTS)." */
    private static void heads() {
        for (int set = 0; set < 64; set++) {
            StringBuilder text = new StringBuilder();
            for (int i = 0; i < 6; i++) {
                text.append("person ").append("abcdef".charAt(i)).append((set >> i & 1) == 1 ? " guest;" : ";");
            }
            LetMe x = Check.at(text.toString());
            CHECK.given(x, "13 guests " + set, x.told(10), set);
            CHECK.given(x, "13 heads of " + set, x.told(6), set == 63 ? 6 : 6 - Integer.bitCount(set));
            CHECK.given(x, "13 in of " + set, x.told(11), 63);
        }
        LetMe one = Check.at("person a guest;");
        CHECK.given(one, "13 one that is a guest", one.told(6), 1);
    }

    private static void paidRoundsGifts() {
        LetMe x = Check.at(SIX, "loop 10;dinner by a;dinner by f;duel b with c;round;gift a to b 5;lend a to b 5;end;");
        CHECK.given(x, "60 live", x.live(4), 61);
        CHECK.given(x, "13 paid by all", x.told(7), 30);
        CHECK.given(x, "13 rounds", x.told(8), 10);
        CHECK.given(x, "13 gifts", x.told(9), 10);
        x.pay(3);
        x.round();
        x.gift(5, 4, 1);
        CHECK.given(x, "13 one more paid", x.told(7), 31);
        CHECK.given(x, "13 one more round", x.told(8), 11);
        CHECK.given(x, "13 one more gift", x.told(9), 11);
        x.giftAt(5, 5, 5);
        x.ends(0, 1, 5, 5);
        x.wasted(0, 1, 5, 5);
        x.evenRounds();
        x.buys();
        x.mean(0, 0, 20);
        x.gift(5, 5, 1);
        x.pay(6);
        CHECK.given(x, "13 no more paid", x.told(7), 31);
        CHECK.given(x, "13 no more rounds", x.told(8), 11);
        CHECK.given(x, "13 no more gifts", x.told(9), 11);
    }

    private static void inAndOut() {
        LetMe x = Check.at(SIX);
        int set = 63;
        for (int i = 0; i < 6; i++) {
            set -= 1 << i;
            x.comes(i, 0);
            CHECK.given(x, "13 in without " + i, x.told(11), set);
        }
        CHECK.given(x, "13 nobody in, all are there", x.told(0), 6);
        for (int i = 5; i >= 0; i--) {
            set += 1 << i;
            x.comes(i, 1);
            CHECK.given(x, "13 in with " + i, x.told(11), set);
        }
    }

    private static void whatOfAPerson() {
        Still still = new Still(CHECK, Still::richAndFed);
        for (int what : new int[] {LEAST, -2, -1, 6, 7, MOST}) {
            still.refused("14 what " + what, x -> x.person(0, what), 1);
            still.refused("14 what " + what + " of nobody", x -> x.person(4, what), 1);
        }
        int[][] wants = {{8, 3, 5, 999, 1}, {16, 6, 2, 40, 0}, {0, 1, 0, 999, -1}, {16, 0, 0, 999, -1}};
        for (int person = 0; person < 4; person++) {
            for (int what = 0; what < 5; what++) {
                int who = person;
                int each = what;
                if (wants[who][each] == -1) {
                    still.refused("14 none of " + who, x -> x.person(who, each), 6);
                } else {
                    still.given("14 person(" + who + ", " + each + ")", x -> x.person(who, each), wants[who][each]);
                }
            }
        }
    }

    private static void noSuchPerson() {
        Still still = new Still(CHECK, Still::richAndFed);
        for (int person : new int[] {LEAST, -2, -1, 4, 5, 6, MOST}) {
            for (int what = 0; what <= 5; what++) {
                int each = what;
                still.refused("14 person " + person, x -> x.person(person, each), 1);
            }
        }
        LetMe nobody = new LetMe();
        CHECK.refused(nobody, "14 of nobody", nobody.person(0, 5), 1);
        LetMe six = Check.at(SIX);
        CHECK.given(six, "14 the sixth", six.person(5, 3), 999);
        CHECK.refused(six, "14 the seventh", six.person(6, 3), 1);
    }

    /** "The other one of its COUPLE (6: none)." */
    private static void couples() {
        LetMe x = Check.at(SIX + "couple f a;couple c b;");
        int[] wants = {5, 2, 1, -1, -1, 0};
        for (int i = 0; i < 6; i++) {
            if (wants[i] < 0) {
                CHECK.refused(x, "14 none of " + i, x.person(i, 4), 6);
            } else {
                CHECK.given(x, "14 the other one of " + i, x.person(i, 4), wants[i]);
            }
        }
    }

    /** A GUEST may be one of a COUPLE. */
    private static void couplesOfGuests() {
        LetMe x = Check.at("person a;person b guest;person c guest;person d guest;couple b a;couple c d;");
        int[] wants = {1, 0, 3, 2};
        for (int i = 0; i < 4; i++) {
            CHECK.given(x, "14 the other one of " + i, x.person(i, 4), wants[i]);
        }
        CHECK.given(x, "13 couples", x.told(1), 2);
    }

    private static void paidByOne() {
        LetMe x = Check.at(SIX);
        for (int i = 1; i <= 100; i++) {
            CHECK.given(x, "28 pay", x.pay(5), i);
        }
        CHECK.given(x, "14 a hundred", x.person(5, 5), 100);
        for (int i = 0; i < 5; i++) {
            CHECK.given(x, "14 none", x.person(i, 5), 0);
        }
    }

    private static void whatOfADish() {
        Still still = new Still(CHECK, Still::richAndFed);
        for (int what : new int[] {LEAST, -2, -1, 2, 3, MOST}) {
            still.refused("15 what " + what, x -> x.dish(0, what), 1);
            still.refused("15 what " + what + ", common", x -> x.dish(1, what), 1);
        }
        int[][] wants = {{90, 0}, {7, -1}, {30, 2}, {12, 3}};
        for (int dish = 0; dish < 4; dish++) {
            int each = dish;
            still.given("15 price of " + dish, x -> x.dish(each, 0), wants[dish][0]);
            if (wants[dish][1] < 0) {
                still.refused("15 common " + dish, x -> x.dish(each, 1), 6);
            } else {
                still.given("15 who had " + dish, x -> x.dish(each, 1), wants[dish][1]);
            }
        }
    }

    private static void noSuchDish() {
        Still still = new Still(CHECK, Still::richAndFed);
        for (int dish : new int[] {LEAST, -2, -1, 4, 5, 15, 16, MOST}) {
            still.refused("15 dish " + dish, x -> x.dish(dish, 0), 1);
            still.refused("15 dish " + dish, x -> x.dish(dish, 1), 1);
        }
        LetMe x = Check.at(SIX + "dish 7 by f;".repeat(16));
        CHECK.given(x, "15 the 16th", x.dish(15, 0), 7);
        CHECK.given(x, "15 the 16th", x.dish(15, 1), 5);
        CHECK.refused(x, "15 the 17th", x.dish(16, 0), 1);
        x.strike();
        CHECK.refused(x, "15 the 16th is gone", x.dish(15, 0), 1);
        CHECK.given(x, "15 the 15th", x.dish(14, 1), 5);
        LetMe none = new LetMe();
        CHECK.refused(none, "15 none", none.dish(0, 0), 1);
        none.order(9, LetMe.NONE);
        CHECK.given(none, "15 ordered", none.dish(0, 0), 9);
        CHECK.refused(none, "15 one behind", none.dish(1, 0), 1);
    }
}
