/** The bounds that the document names for promises 28 to 37: who pays. */
public final class PayersEdgesTest {
    private static final Check CHECK = new Check("PayersEdgesTest");
    private static final int LEAST = Integer.MIN_VALUE;
    private static final int MOST = Integer.MAX_VALUE;
    private static final int[] NOBODY = {LEAST, -2, -1, 4, 5, 6, 32, MOST};

    public static void main(String[] args) {
        noSuchPerson();
        payJustTheMost();
        payTooMuchOfAnyone();
        payWhatIsDueAlone();
        payByTheSplit();
        nobodysTurn();
        turnByLaws();
        turnOfSeveral();
        turnOfHeads();
        itselfInADuel();
        neverEnds();
        endsJust();
        trioOfTwo();
        trioOfWhom();
        trioMayNeverEnd();
        trioJustEnds();
        noSuchSet();
        notOfTheSet();
        allQuickAreZero();
        reachTheMost();
        easyOnNobody();
        easyOnSeveral();
        regretTellsMinusOne();
        regretBelowZero();
        sorestOfSeveral();
        CHECK.finish();
    }

    private static void noSuchPerson() {
        Still still = new Still(CHECK, Still::richAndFed);
        for (int person : NOBODY) {
            still.refused("28 person " + person, x -> x.pay(person), 1);
            still.refused("35 person " + person, x -> x.easyOn(person), 1);
            still.refused("36 person " + person, x -> x.regret(person), 1);
            still.denied("31 person " + person, x -> x.duel(person, 0), 1);
            still.denied("31 person " + person, x -> x.duel(0, person), 1);
            still.denied("32 person " + person, x -> x.goes(person, 0), 1);
            still.denied("32 person " + person, x -> x.goes(0, person), 1);
            still.denied("33 person " + person, x -> x.trio(person, 0, 2, 0), 1);
            still.denied("33 person " + person, x -> x.trio(0, person, 2, 0), 1);
            still.denied("33 person " + person, x -> x.trio(0, 2, person, 0), 1);
            still.denied("34 person " + person, x -> x.reach(15, person), 1);
        }
        for (int law : new int[] {LEAST, -2, -1, 4, 5, MOST}) {
            still.refused("30 law " + law, x -> x.turnBy(law), 1);
        }
        still.given("29 turn", LetMe::turn, 1);
        still.given("30 turn", x -> x.turnBy(0), 3);
        still.given("30 owing", x -> x.turnBy(1), 0);
        still.given("30 quick", x -> x.turnBy(2), 1);
        still.given("30 insists", x -> x.turnBy(3), 1);
        still.fraction("31 duel", x -> x.duel(0, 2), 1, 2);
        still.fraction("32 goes", x -> x.goes(0, 2), 3, 2);
        still.fraction("33 trio", x -> x.trio(0, 2, 3, 2), 1, 1);
        still.fraction("34 reach", x -> x.reach(7, 0), 3, 10);
        still.given("35 easy on", x -> x.easyOn(0), 1);
        LetMe nobody = new LetMe();
        CHECK.refused(nobody, "28 nobody", nobody.pay(0), 1);
        CHECK.refused(nobody, "35 nobody", nobody.easyOn(0), 1);
        CHECK.refused(nobody, "36 nobody", nobody.regret(0), 1);
    }

    /** The second and the third of three owe the first so much; the BILL is 900. */
    private static LetMe owed(int second, int third) {
        LetMe x = Check.at("person a;person b;person c;dish 900;");
        lend(x, 0, 1, second);
        lend(x, 0, 2, third);
        return x;
    }

    static void lend(LetMe x, int from, int to, int much) {
        int left = much;
        while (left > 0) {
            x.lend(from, to, Math.min(left, 9_999));
            left -= 9_999;
        }
    }

    /** "999,999 at most; then it can't be." */
    private static void payJustTheMost() {
        LetMe x = owed(999_699, 999_699);
        CHECK.given(x, "28 just 999,999", x.pay(0), 1);
        CHECK.given(x, "38 just 999,999", x.owes(1, 0), 999_999);
        CHECK.given(x, "38 just 999,999", x.owes(2, 0), 999_999);
        CHECK.refused(x, "28 no more", x.pay(0), 7);
        CHECK.given(x, "14 paid once", x.person(0, 5), 1);
        CHECK.given(x, "13 paid once", x.told(7), 1);
        CHECK.given(x, "28 another one may", x.pay(1), 1);
        CHECK.given(x, "38 the other way", x.owes(0, 1), 300);
        LetMe y = owed(999_698, 999_699);
        CHECK.given(y, "28 just 999,999 of one", y.pay(0), 1);
        CHECK.given(y, "38 999,998", y.owes(1, 0), 999_998);
    }

    /** "7: more than 999,999 would be owed": by the first, the second alone, by both. */
    private static void payTooMuchOfAnyone() {
        new Still(CHECK, () -> owed(999_700, 0)).refused("28 the second one", x -> x.pay(0), 7);
        new Still(CHECK, () -> owed(0, 999_700)).refused("28 the third one", x -> x.pay(0), 7);
        new Still(CHECK, () -> owed(999_700, 999_700)).refused("28 both", x -> x.pay(0), 7);
        new Still(CHECK, () -> owed(999_999, 999_999)).refused("28 1 ahead of 7", x -> x.pay(3), 1);
        LetMe last = Check.at("person a;person b;person c;dish 900;");
        lend(last, 2, 1, 999_700);
        CHECK.refused(last, "28 the second one to the last", last.pay(2), 7);
        CHECK.given(last, "38 the first one is not charged", last.owes(0, 2), 0);
        CHECK.given(last, "28 to another one", last.pay(0), 1);
    }

    /** A DUE of 0 adds nothing: who OWES 999,999 and is a GUEST is in nobody's way. */
    private static void payWhatIsDueAlone() {
        LetMe x = Check.at("person a;person b guest;person c;dish 900;");
        lend(x, 0, 1, 999_999);
        lend(x, 0, 2, 999_549);
        CHECK.given(x, "28 a guest's 0", x.pay(0), 1);
        CHECK.given(x, "38 a guest's 0", x.owes(1, 0), 999_999);
        CHECK.given(x, "38 just the most", x.owes(2, 0), 999_999);
        CHECK.refused(x, "28 no more", x.pay(0), 7);
        x.strike();
        CHECK.given(x, "28 of nothing", x.pay(0), 2);
        x.order(1, 0);
        CHECK.given(x, "28 its own due counts for nobody", x.pay(0), 3);
        CHECK.given(x, "38 nothing more", x.owes(2, 0), 999_999);
    }

    /** "Each other one OWES it its DUE by the SPLIT more": by the TABLE's, and a GUEST may pay. */
    private static void payByTheSplit() {
        int[][] dues = {{35, 35, 35, 0}, {66, 5, 34, 0}, {53, 0, 52, 0}};
        for (int split = 0; split < 3; split++) {
            for (int payer = 0; payer < 4; payer++) {
                LetMe x = Check.at("person a;person b;person c;person d guest;couple a b;dish 10;dish 5 by d;dish 60 by a;dish 30 by c;");
                x.split(split);
                CHECK.given(x, "28 by split " + split, x.pay(payer), 1);
                for (int other = 0; other < 4; other++) {
                    if (other != payer) {
                        CHECK.given(x, "38 by split " + split + " " + other, x.owes(other, payer), dues[split][other]);
                        CHECK.given(x, "38 not the other way " + other, x.owes(payer, other), 0);
                    }
                }
            }
        }
    }

    /** "6: nobody." */
    private static void nobodysTurn() {
        Still still = new Still(CHECK, LetMe::new);
        still.refused("29 nobody", LetMe::turn, 6);
        for (int law = 0; law < 4; law++) {
            int by = law;
            still.refused("30 nobody by " + law, x -> x.turnBy(by), 6);
        }
        still.refused("30 1 ahead of 6", x -> x.turnBy(-1), 1);
        still.refused("30 1 ahead of 6", x -> x.turnBy(4), 1);
        still.refused("37 nobody", LetMe::sorest, 6);
        LetMe one = Check.at("person a guest;");
        CHECK.given(one, "29 one", one.turn(), 0);
        CHECK.given(one, "30 one", one.turnBy(3), 0);
    }

    private static void turnByLaws() {
        String[] laws = {"turn", "owing", "quick", "insists"};
        int[] wants = {3, 0, 1, 2};
        for (int law = 0; law < 4; law++) {
            LetMe x = Check.at("person a quick 0;person b quick 20;person c insists 16 quick 19;person d insists 15 quick 19;owes a d 9;law " + laws[law] + ";");
            x.pay(0);
            x.pay(1);
            x.pay(2);
            CHECK.given(x, "29 by law " + laws[law], x.turn(), wants[law]);
            for (int by = 0; by < 4; by++) {
                CHECK.given(x, "30 by law " + laws[by], x.turnBy(by), wants[by]);
            }
        }
    }

    /** "Of several the first." */
    private static void turnOfSeveral() {
        LetMe x = Check.at("person a insists 3 quick 3;person b insists 4 quick 4;person c insists 4 quick 4;person d insists 4 quick 4;owes b d 5;owes c d 5;");
        x.pay(0);
        CHECK.given(x, "30 turn", x.turnBy(0), 1);
        CHECK.given(x, "30 owing", x.turnBy(1), 1);
        CHECK.given(x, "30 quick", x.turnBy(2), 1);
        CHECK.given(x, "30 insists", x.turnBy(3), 1);
        x.pay(1);
        x.pay(2);
        CHECK.given(x, "30 the last one", x.turnBy(0), 3);
        x.pay(3);
        CHECK.given(x, "30 all alike", x.turnBy(0), 0);
        LetMe zero = Check.at("person a quick 0;person b quick 0;");
        CHECK.given(zero, "30 all 0", zero.turnBy(2), 0);
        CHECK.given(zero, "30 all 0", zero.turnBy(3), 0);
        CHECK.given(zero, "30 all 0", zero.turnBy(1), 0);
    }

    /** "Of the HEADS." */
    private static void turnOfHeads() {
        LetMe x = Check.at("person a insists 16 quick 20 guest;person b;person c guest;owes a b 50;");
        x.pay(1);
        for (int law = 0; law < 4; law++) {
            CHECK.given(x, "30 the only head by " + law, x.turnBy(law), 1);
        }
        LetMe y = Check.at("person a guest;person b insists 9 quick 9 guest;owes b a 5;");
        y.pay(0);
        for (int law = 0; law < 4; law++) {
            CHECK.given(y, "30 all are guests, by " + law, y.turnBy(law), 1);
        }
    }

    private static LetMe insisting(int... insists) {
        StringBuilder text = new StringBuilder();
        for (int i = 0; i < insists.length; i++) {
            text.append("person ").append((char) ('p' + i)).append(" insists ").append(insists[i]).append(';');
        }
        return Check.at(text.toString());
    }

    /** "1: one and itself, too", also of one who would never end. */
    private static void itselfInADuel() {
        Still still = new Still(CHECK, Still::richAndFed);
        for (int person = 0; person < 4; person++) {
            int who = person;
            still.denied("31 itself " + who, x -> x.duel(who, who), 1);
            still.denied("32 itself " + who, x -> x.goes(who, who), 1);
        }
    }

    /** "6: it never ends": both INSIST by 16. */
    private static void neverEnds() {
        Still still = new Still(CHECK, Still::richAndFed);
        still.denied("31 never ends", x -> x.duel(1, 3), 6);
        still.denied("31 never ends", x -> x.duel(3, 1), 6);
        still.denied("32 never ends", x -> x.goes(1, 3), 6);
        still.denied("32 never ends", x -> x.goes(3, 1), 6);
    }

    private static void endsJust() {
        int[][] all = {{16, 15, 1, 1, 32, 1}, {15, 16, 0, 1, 31, 1}, {15, 15, 15, 31, 16, 1}, {16, 0, 1, 1, 2, 1}, {0, 16, 0, 1, 1, 1},
            {0, 0, 0, 1, 1, 1}, {1, 0, 1, 16, 17, 16}, {0, 1, 0, 1, 1, 1}, {1, 1, 1, 17, 16, 15}, {1, 16, 0, 1, 17, 15}, {16, 1, 1, 1, 32, 15}};
        for (int[] row : all) {
            LetMe x = insisting(row[0], row[1]);
            CHECK.fraction(x, "31 of " + row[0] + " and " + row[1], x.duel(0, 1), row[2], row[3]);
            CHECK.fraction(x, "32 of " + row[0] + " and " + row[1], x.goes(0, 1), row[4], row[5]);
        }
    }

    /** "1: two the same, too." */
    private static void trioOfTwo() {
        Still still = new Still(CHECK, Still::richAndFed);
        still.denied("33 the first two the same", x -> x.trio(0, 0, 2, 0), 1);
        still.denied("33 the last two the same", x -> x.trio(0, 2, 2, 0), 1);
        still.denied("33 the outer two the same", x -> x.trio(0, 2, 0, 0), 1);
        still.denied("33 all the same", x -> x.trio(2, 2, 2, 0), 1);
        still.denied("33 the same, who never ends", x -> x.trio(1, 1, 3, 0), 1);
    }

    /** "Told as w (0 first, 1, 2)." */
    private static void trioOfWhom() {
        Still still = new Still(CHECK, Still::richAndFed);
        for (int w : new int[] {LEAST, -2, -1, 3, 4, MOST}) {
            still.denied("33 w " + w, x -> x.trio(0, 2, 3, w), 1);
            still.denied("33 w " + w + ", ahead of 6", x -> x.trio(0, 1, 3, w), 1);
        }
        LetMe x = insisting(8, 0, 0);
        // the first gives way by half; if not, the second does, and the third then
        CHECK.fraction(x, "33 w 0", x.trio(0, 1, 2, 0), 1, 2);
        CHECK.fraction(x, "33 w 1", x.trio(0, 1, 2, 1), 0, 1);
        CHECK.fraction(x, "33 w 2", x.trio(0, 1, 2, 2), 1, 2);
        CHECK.fraction(x, "33 from the second on, w 0", x.trio(1, 2, 0, 0), 0, 1);
        CHECK.fraction(x, "33 from the second on, w 2", x.trio(1, 2, 0, 2), 1, 1);
        CHECK.fraction(x, "33 from the third on, w 1", x.trio(2, 0, 1, 1), 1, 2);
        CHECK.fraction(x, "33 from the third on, w 2", x.trio(2, 0, 1, 2), 1, 2);
    }

    /** "6: it may never end: all three, or two of them, INSIST by 16." */
    private static void trioMayNeverEnd() {
        int[][] all = {{16, 16, 0}, {16, 0, 16}, {0, 16, 16}, {16, 16, 16}, {16, 16, 15}, {15, 16, 16}, {16, 15, 16}};
        for (int[] row : all) {
            Still still = new Still(CHECK, () -> insisting(row));
            for (int w = 0; w < 3; w++) {
                int who = w;
                still.denied("33 may never end, w " + w, x -> x.trio(0, 1, 2, who), 6);
            }
        }
    }

    private static void trioJustEnds() {
        int[][] all = {{16, 15, 15}, {15, 16, 15}, {15, 15, 16}};
        for (int i = 0; i < 3; i++) {
            LetMe x = insisting(all[i]);
            for (int w = 0; w < 3; w++) {
                CHECK.fraction(x, "33 the one of 16 pays, w " + w, x.trio(0, 1, 2, w), w == i ? 1 : 0, 1);
            }
        }
        LetMe meek = insisting(0, 0, 0);
        for (int w = 0; w < 3; w++) {
            CHECK.fraction(meek, "33 the last one is left, w " + w, meek.trio(0, 1, 2, w), w == 2 ? 1 : 0, 1);
        }
        LetMe one = insisting(0, 16, 0);
        CHECK.fraction(one, "33 the second pays", one.trio(0, 1, 2, 1), 1, 1);
        LetMe alike = insisting(15, 15, 15);
        long sum = 0;
        long bottom = 1;
        for (int w = 0; w < 3; w++) {
            CHECK.granted(alike, "33 alike", alike.trio(0, 1, 2, w));
            sum = sum * alike.bottom() + alike.top() * bottom;
            bottom *= alike.bottom();
        }
        CHECK.due("33 one of the three pays", sum, bottom);
    }

    /** "1: no such set." */
    private static void noSuchSet() {
        Still still = new Still(CHECK, Still::richAndFed);
        for (int set : new int[] {LEAST, LEAST + 1, -16, -1, 0, 16, 17, 31, 32, 63, 64, MOST}) {
            for (int person = 0; person < 4; person++) {
                int who = person;
                still.denied("34 set " + set, x -> x.reach(set, who), 1);
            }
        }
        LetMe nobody = new LetMe();
        CHECK.denied(nobody, "34 nobody", nobody.reach(0, 0), 1);
        CHECK.denied(nobody, "34 nobody", nobody.reach(1, 0), 1);
    }

    /** "Not of it." */
    private static void notOfTheSet() {
        for (int set = 1; set < 16; set++) {
            LetMe x = Check.at("person a quick 1;person b quick 2;person c quick 4;person d quick 8;");
            for (int person = 0; person < 4; person++) {
                if ((set >> person & 1) == 0) {
                    CHECK.denied(x, "34 not of " + set, x.reach(set, person), 1);
                } else {
                    CHECK.granted(x, "34 of " + set, x.reach(set, person));
                    CHECK.due("34 of " + set, x.top() * set, (1 << person) * x.bottom());
                }
            }
        }
    }

    /** "6: all QUICK are 0." */
    private static void allQuickAreZero() {
        Still still = new Still(CHECK, () -> Check.at("person a quick 0;person b quick 0;person c;"));
        still.denied("34 both 0", x -> x.reach(3, 0), 6);
        still.denied("34 both 0", x -> x.reach(3, 1), 6);
        still.denied("34 alone 0", x -> x.reach(2, 1), 6);
        still.denied("34 1 ahead of 6", x -> x.reach(3, 2), 1);
        still.denied("34 1 ahead of 6", x -> x.reach(2, 0), 1);
        still.fraction("34 not all 0", x -> x.reach(5, 0), 0, 1);
        still.fraction("34 not all 0", x -> x.reach(7, 2), 1, 1);
    }

    private static void reachTheMost() {
        LetMe x = Check.at("person a quick 20;person b quick 20;person c quick 20;person d quick 20;person e quick 20;person f quick 19;");
        CHECK.fraction(x, "34 the set of all", x.reach(63, 0), 20, 119);
        CHECK.fraction(x, "34 the sixth of all", x.reach(63, 5), 19, 119);
        CHECK.fraction(x, "34 alone", x.reach(32, 5), 1, 1);
        CHECK.denied(x, "34 above all", x.reach(64, 5), 1);
    }

    /** "6: none with whom it ends." */
    private static void easyOnNobody() {
        new Still(CHECK, () -> insisting(16, 16, 16)).refused("35 all 16", x -> x.easyOn(1), 6);
        new Still(CHECK, () -> insisting(5)).refused("35 alone", x -> x.easyOn(0), 6);
        LetMe x = insisting(16, 16, 15);
        CHECK.given(x, "35 the only one", x.easyOn(0), 2);
        CHECK.given(x, "35 the only one", x.easyOn(1), 2);
        CHECK.given(x, "35 of two the first", x.easyOn(2), 0);
    }

    /** "With the least ODDS, if it begins; of several the first." */
    private static void easyOnSeveral() {
        LetMe x = insisting(7, 3, 9, 2, 9, 8);
        CHECK.given(x, "35 of several the first", x.easyOn(0), 2);
        CHECK.given(x, "35 not itself", x.easyOn(2), 4);
        CHECK.given(x, "35 of several the first", x.easyOn(5), 2);
        LetMe meek = insisting(0, 0, 16);
        CHECK.given(meek, "35 0 against all", meek.easyOn(0), 1);
        CHECK.given(meek, "35 0 against all", meek.easyOn(1), 0);
        CHECK.given(meek, "35 1 against all", meek.easyOn(2), 0);
        LetMe near = insisting(16, 16, 3, 9, 16);
        CHECK.given(near, "35 1 against all with whom it ends", near.easyOn(4), 2);
    }

    /** "STATUS tells NONE from -1." */
    private static void regretTellsMinusOne() {
        LetMe x = Check.at("person a;person b minds 1;owes b a 1;");
        x.told(-1);
        CHECK.given(x, "36 -1", x.regret(0), -1);
        CHECK.given(x, "36 1", x.regret(1), 1);
        CHECK.refused(x, "36 NONE", x.regret(2), 1);
    }

    /** "MINDS times how often others have PAID, less BALANCE (below 0, too)." */
    private static void regretBelowZero() {
        LetMe x = Check.at("person a minds 99;person b;person c minds 1;");
        lend(x, 1, 0, 999_999);
        for (int i = 0; i < 50; i++) {
            x.pay(1);
        }
        x.pay(0);
        CHECK.given(x, "36 the others' alone", x.regret(0), 50 * 99 + 999_999);
        CHECK.given(x, "36 below 0", x.regret(1), -999_999);
        CHECK.given(x, "36 of all others", x.regret(2), 51);
        CHECK.given(x, "37 sorest", x.sorest(), 0);
    }

    /** "Of several the first", all below 0, too. */
    private static void sorestOfSeveral() {
        LetMe x = Check.at("person a;person b;person c;person d;owes a d 4;owes b d 9;owes c d 9;");
        CHECK.given(x, "37 the first of two", x.sorest(), 1);
        LetMe alike = Check.at("person a;person b;");
        CHECK.given(alike, "37 all 0", alike.sorest(), 0);
        LetMe one = Check.at("person a;");
        CHECK.given(one, "37 alone", one.sorest(), 0);
        LetMe guest = Check.at("person a;person b minds 5 guest;");
        guest.pay(0);
        CHECK.given(guest, "37 a guest, too", guest.sorest(), 1);
        CHECK.given(guest, "36 a guest, too", guest.regret(1), 5);
    }
}
