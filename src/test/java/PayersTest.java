import java.math.BigInteger;

/** Promises 28 to 37: who pays. */
public final class PayersTest {
    private static final Check CHECK = new Check("PayersTest");

    public static void main(String[] args) {
        pay();
        payTooMuch();
        turn();
        duelAndGoes();
        duelsByChains();
        trio();
        triosByChains();
        reach();
        easyOn();
        regret();
        CHECK.finish();
    }

    private static void pay() {
        LetMe x = Check.at("person a;person b guest;person c;dish 11 by a;dish 10 by b;split eaten;");
        CHECK.given(x, "28 pay", x.pay(2), 1);
        CHECK.given(x, "28 a owes", x.owes(0, 2), 16);
        CHECK.given(x, "28 a guest owes nothing", x.owes(1, 2), 0);
        CHECK.given(x, "28 a guest may pay", x.pay(1), 1);
        CHECK.given(x, "28 owed to a guest", x.owes(0, 1), 16);
        CHECK.given(x, "28 owed to a guest", x.owes(2, 1), 5);
        CHECK.given(x, "28 again", x.pay(2), 2);
        CHECK.given(x, "28 more", x.owes(0, 2), 32);
        CHECK.given(x, "28 told", x.person(2, 5), 2);
        CHECK.given(x, "28 all", x.told(7), 3);
        CHECK.refused(x, "28 person -1", x.pay(-1), 1);
        CHECK.refused(x, "28 person 3", x.pay(3), 1);
    }

    private static void payTooMuch() {
        LetMe x = Check.at("person a;person b;person c;" + "dish 999;".repeat(16));
        for (int i = 0; i < 187; i++) {
            x.pay(0);
        }
        CHECK.given(x, "28 near the most", x.owes(1, 0), 187 * 5328);
        x.lend(0, 1, 3335);
        CHECK.given(x, "28 the most", x.owes(1, 0), 999_671);
        CHECK.refused(x, "28 too much", x.pay(0), 7);
        CHECK.given(x, "28 nothing changed", x.owes(2, 0), 187 * 5328);
        CHECK.given(x, "28 nothing changed", x.person(0, 5), 187);
        for (int i = 0; i < 15; i++) {
            x.strike();
        }
        CHECK.refused(x, "28 too much by 4", x.pay(0), 7);
        x.gift(0, 1, 5);
        CHECK.given(x, "28 just the most", x.pay(0), 188);
        CHECK.given(x, "28 just the most", x.owes(1, 0), 999_999);
        x.strike();
        CHECK.given(x, "28 nothing more", x.pay(0), 189);
        LetMe y = Check.at("person a;person b;person c;" + "dish 999;".repeat(16));
        for (int i = 0; i < 187; i++) {
            y.pay(0);
        }
        y.gift(0, 1, 9_999);
        CHECK.refused(y, "28 too much of the last alone", y.pay(0), 7);
        CHECK.given(y, "28 the first was not charged", y.owes(1, 0), 187 * 5328 - 9_999);
        LetMe z = Check.at("person a;person b;person c;dish 999;");
        for (int i = 0; i < 100; i++) {
            z.lend(2, 0, 9_999);
        }
        CHECK.refused(z, "28 too much of the first alone", z.pay(2), 7);
        CHECK.given(z, "28 the second was not charged", z.owes(1, 2), 0);
    }

    private static void turn() {
        LetMe x = Check.at("person a insists 9 quick 9 guest;person b insists 4 quick 2;person c insists 2 quick 3;"
            + "person d insists 4 quick 3;dish 90;");
        CHECK.given(x, "29 the first", x.turn(), 1);
        CHECK.given(x, "30 turn", x.turnBy(0), 1);
        CHECK.given(x, "30 owing", x.turnBy(1), 1);
        CHECK.given(x, "30 quick", x.turnBy(2), 2);
        CHECK.given(x, "30 insists", x.turnBy(3), 1);
        x.pay(1);
        CHECK.given(x, "29 the next", x.turn(), 2);
        CHECK.given(x, "30 owing, of several the first", x.turnBy(1), 2);
        x.lend(0, 3, 1);
        CHECK.given(x, "30 owing most", x.turnBy(1), 3);
        for (int law = 0; law < 4; law++) {
            x.law(law);
            CHECK.given(x, "29 by the law", x.turn(), x.turnBy(law));
        }
        CHECK.refused(x, "30 law -1", x.turnBy(-1), 1);
        CHECK.refused(x, "30 law 4", x.turnBy(4), 1);
        LetMe nobody = new LetMe();
        CHECK.refused(nobody, "29 nobody", nobody.turn(), 6);
        CHECK.refused(nobody, "30 nobody", nobody.turnBy(3), 6);
        CHECK.refused(nobody, "30 1 ahead of 6", nobody.turnBy(4), 1);
        LetMe guests = Check.at("person a guest;person b quick 5 guest;");
        CHECK.given(guests, "29 all are guests", guests.turn(), 0);
        CHECK.given(guests, "30 all are guests", guests.turnBy(2), 1);
    }

    private static LetMe insisting(int... insists) {
        StringBuilder text = new StringBuilder();
        for (int i = 0; i < insists.length; i++) {
            text.append("person ").append((char) ('p' + i)).append(" insists ").append(insists[i]).append(';');
        }
        return Check.at(text.toString());
    }

    private static void duelAndGoes() {
        LetMe x = insisting(16, 16, 0, 8);
        CHECK.denied(x, "31 never ends", x.duel(0, 1), 6);
        CHECK.denied(x, "32 never ends", x.goes(1, 0), 6);
        CHECK.denied(x, "31 itself", x.duel(0, 0), 1);
        CHECK.denied(x, "32 itself", x.goes(3, 3), 1);
        CHECK.denied(x, "31 nobody", x.duel(0, 4), 1);
        CHECK.denied(x, "31 nobody", x.duel(-1, 0), 1);
        CHECK.denied(x, "32 nobody", x.goes(4, 0), 1);
        CHECK.denied(x, "32 nobody", x.goes(0, -1), 1);
        CHECK.fraction(x, "31 gives way at once", x.duel(2, 0), 0, 1);
        CHECK.fraction(x, "32 gives way at once", x.goes(2, 0), 1, 1);
        CHECK.fraction(x, "31 pays for sure", x.duel(0, 2), 1, 1);
        CHECK.fraction(x, "32 two goes", x.goes(0, 2), 2, 1);
        CHECK.fraction(x, "31 half", x.duel(3, 2), 1, 2);
        CHECK.fraction(x, "32 sure and half", x.goes(0, 3), 4, 1);
    }

    /** From the last go back: what would be at n goes to come, less and less of which is unknown. */
    private static void duelsByChains() {
        for (int a = 0; a <= 16; a++) {
            for (int b = 0; b <= 16; b++) {
                if (a == 16 && b == 16) {
                    continue;
                }
                LetMe x = insisting(a, b);
                double odds = 0;
                double goes = 0;
                for (int i = 0; i < 6000; i++) {
                    odds = a / 16.0 * ((16 - b) / 16.0 + b / 16.0 * odds);
                    goes = 1 + a / 16.0 * (1 + b / 16.0 * goes);
                }
                CHECK.granted(x, "31 duel", x.duel(0, 1));
                near("31 odds " + a + " " + b, x, odds);
                CHECK.granted(x, "32 goes", x.goes(0, 1));
                near("32 goes " + a + " " + b, x, goes);
            }
        }
    }

    private static void near(String call, LetMe x, double want) {
        CHECK.due(call, Math.abs((double) x.top() / x.bottom() - want) < 1e-9, true);
        long divisor = BigInteger.valueOf(x.top()).gcd(BigInteger.valueOf(x.bottom())).longValue();
        CHECK.due(call + ": no common divisor", divisor, 1);
        CHECK.due(call + ": above 0", x.bottom() > 0, true);
    }

    private static void trio() {
        LetMe x = insisting(16, 16, 0, 8, 16);
        CHECK.denied(x, "33 all three", x.trio(0, 1, 4, 0), 6);
        CHECK.denied(x, "33 two of them", x.trio(0, 2, 1, 0), 6);
        CHECK.denied(x, "33 two of them", x.trio(3, 0, 1, 2), 6);
        CHECK.denied(x, "33 the same", x.trio(0, 0, 3, 0), 1);
        CHECK.denied(x, "33 the same", x.trio(0, 3, 3, 0), 1);
        CHECK.denied(x, "33 the same", x.trio(3, 0, 3, 0), 1);
        CHECK.denied(x, "33 w -1", x.trio(0, 2, 3, -1), 1);
        CHECK.denied(x, "33 w 3", x.trio(0, 2, 3, 3), 1);
        CHECK.denied(x, "33 1 ahead of 6", x.trio(0, 1, 4, 3), 1);
        CHECK.denied(x, "33 nobody", x.trio(0, 2, 5, 0), 1);
        CHECK.denied(x, "33 nobody", x.trio(-1, 2, 3, 0), 1);
        CHECK.denied(x, "33 nobody", x.trio(0, 9, 3, 0), 1);
        CHECK.fraction(x, "33 the sure one pays", x.trio(0, 2, 3, 0), 1, 1);
        CHECK.fraction(x, "33 the others do not", x.trio(0, 2, 3, 1), 0, 1);
        CHECK.fraction(x, "33 the sure one, told last", x.trio(2, 3, 0, 2), 1, 1);
        LetMe meek = insisting(0, 0, 0);
        CHECK.fraction(meek, "33 the last one is left", meek.trio(0, 1, 2, 2), 1, 1);
        CHECK.fraction(meek, "33 the last one is left", meek.trio(2, 1, 0, 2), 1, 1);
    }

    private static void triosByChains() {
        int[] some = {0, 1, 5, 8, 15, 16};
        for (int a : some) {
            for (int b : some) {
                for (int c : some) {
                    if ((a == 16 ? 1 : 0) + (b == 16 ? 1 : 0) + (c == 16 ? 1 : 0) > 1) {
                        continue;
                    }
                    LetMe x = insisting(a, b, c);
                    double[] insists = {a / 16.0, b / 16.0, c / 16.0};
                    for (int w = 0; w < 3; w++) {
                        CHECK.granted(x, "33 trio", x.trio(0, 1, 2, w));
                        near("33 odds " + a + " " + b + " " + c + " " + w, x, left(insists, w));
                    }
                }
            }
        }
    }

    /** One go after another, with how likely each set of those who are left is, and whose go it is. */
    private static double left(double[] insists, int w) {
        double[][] likely = new double[8][3];
        likely[7][0] = 1;
        double paid = 0;
        for (int go = 0; go < 12000; go++) {
            double[][] next = new double[8][3];
            for (int set = 1; set < 8; set++) {
                for (int i = 0; i < 3; i++) {
                    double p = likely[set][i];
                    if (p == 0) {
                        continue;
                    }
                    if (Integer.bitCount(set) == 1) {
                        paid += (set >> w & 1) * p;
                        continue;
                    }
                    int j = (i + 1) % 3;
                    if ((set >> j & 1) == 0) {
                        j = (j + 1) % 3;
                    }
                    next[set][j] += p * insists[i];
                    next[set & ~(1 << i)][j] += p * (1 - insists[i]);
                }
            }
            likely = next;
        }
        return paid;
    }

    private static void reach() {
        LetMe x = Check.at("person a quick 6;person b quick 0;person c quick 4;person d quick 20;");
        CHECK.fraction(x, "34 of all", x.reach(15, 0), 1, 5);
        CHECK.fraction(x, "34 of two", x.reach(5, 2), 2, 5);
        CHECK.fraction(x, "34 alone", x.reach(8, 3), 1, 1);
        CHECK.fraction(x, "34 the first alone", x.reach(1, 0), 1, 1);
        CHECK.fraction(x, "34 of 0", x.reach(3, 1), 0, 1);
        CHECK.denied(x, "34 all quick are 0", x.reach(2, 1), 6);
        CHECK.denied(x, "34 not of it", x.reach(5, 1), 1);
        CHECK.denied(x, "34 no set", x.reach(0, 0), 1);
        CHECK.denied(x, "34 no such set", x.reach(16, 0), 1);
        CHECK.denied(x, "34 no such set", x.reach(17, 0), 1);
        CHECK.denied(x, "34 no such set", x.reach(-1, 0), 1);
        CHECK.denied(x, "34 nobody", x.reach(15, 4), 1);
        CHECK.denied(x, "34 nobody", x.reach(15, -1), 1);
        CHECK.denied(x, "34 nobody", x.reach(15, 32), 1);
    }

    private static void easyOn() {
        LetMe x = insisting(16, 4, 9, 16, 9);
        CHECK.given(x, "35 pays for sure: the first with whom it ends", x.easyOn(0), 1);
        CHECK.given(x, "35 of several the first", x.easyOn(1), 0);
        CHECK.given(x, "35 not itself", x.easyOn(4), 0);
        CHECK.refused(x, "35 nobody", x.easyOn(5), 1);
        CHECK.refused(x, "35 nobody", x.easyOn(-1), 1);
        LetMe y = insisting(16, 16);
        CHECK.refused(y, "35 none with whom it ends", y.easyOn(0), 6);
        LetMe z = insisting(3);
        CHECK.refused(z, "35 alone", z.easyOn(0), 6);
        LetMe meek = insisting(0, 3, 9);
        CHECK.given(meek, "35 all the same", meek.easyOn(0), 1);
    }

    private static void regret() {
        LetMe x = Check.at("person a minds 3;person b minds 50;person c;dish 30;owes c b 1;");
        CHECK.given(x, "36 -1 with status 0", x.regret(1), -1);
        x.pay(0);
        x.pay(0);
        x.pay(2);
        CHECK.given(x, "36 a", x.regret(0), 3 - (20 + 20 - 10));
        CHECK.given(x, "36 b", x.regret(1), 150 - (1 - 20 - 10));
        CHECK.given(x, "36 c", x.regret(2), 0 - (20 - 21));
        CHECK.given(x, "37 sorest", x.sorest(), 1);
        CHECK.refused(x, "36 nobody", x.regret(3), 1);
        CHECK.refused(x, "36 nobody", x.regret(-1), 1);
        LetMe nobody = new LetMe();
        CHECK.refused(nobody, "37 nobody", nobody.sorest(), 6);
        LetMe y = Check.at("person a;person b;person c;owes c a 5;");
        CHECK.given(y, "37 the greatest", y.sorest(), 2);
        LetMe z = Check.at("person a;person b;owes a b 0;");
        CHECK.given(z, "37 of several the first", z.sorest(), 0);
    }
}
