import java.util.Arrays;
import java.util.Random;

/** Promises 38 to 48: who OWES whom. */
public final class DebtsTest {
    private static final Check CHECK = new Check("DebtsTest");
    private static final String SIX = "person a;person b;person c;person d;person e;person f;";

    public static void main(String[] args) {
        owesAndLend();
        balance();
        quits();
        settle();
        settleAtRandom();
        ties();
        extreme();
        simplify();
        simplifyTheMost();
        simplifyAtRandom();
        chain();
        even();
        evenAtRandom();
        CHECK.finish();
    }

    private static void owesAndLend() {
        LetMe x = Check.at("person a;person b;owes a b 5;");
        CHECK.given(x, "38 owes", x.owes(0, 1), 5);
        CHECK.given(x, "38 the other way", x.owes(1, 0), 0);
        CHECK.refused(x, "38 itself", x.owes(0, 0), 1);
        CHECK.refused(x, "38 nobody", x.owes(0, 2), 1);
        CHECK.refused(x, "38 nobody", x.owes(-1, 0), 1);
        CHECK.given(x, "39 lend", x.lend(0, 1, 9_999), 9_999);
        CHECK.given(x, "39 the second owes", x.owes(1, 0), 9_999);
        CHECK.given(x, "39 the first as before", x.owes(0, 1), 5);
        CHECK.given(x, "39 lend more", x.lend(1, 0, 1), 6);
        CHECK.refused(x, "39 itself", x.lend(1, 1, 5), 1);
        CHECK.refused(x, "39 nobody", x.lend(1, 2, 5), 1);
        CHECK.refused(x, "39 nobody", x.lend(-1, 1, 5), 1);
        CHECK.refused(x, "39 much 0", x.lend(0, 1, 0), 1);
        CHECK.refused(x, "39 much 10000", x.lend(0, 1, 10_000), 1);
        for (int i = 1; i < 100; i++) {
            x.lend(0, 1, 9_999);
        }
        CHECK.refused(x, "39 above 999,999", x.lend(0, 1, 100), 7);
        CHECK.given(x, "39 nothing changed", x.owes(1, 0), 999_900);
        CHECK.given(x, "39 just 999,999", x.lend(0, 1, 99), 999_999);
        CHECK.refused(x, "39 1 ahead of 7", x.lend(0, 1, 0), 1);
    }

    private static void balance() {
        LetMe x = Check.at("person a;person b;person c;owes a b 5;owes c b 7;owes b a 4;");
        CHECK.given(x, "40 -1 with status 0", x.balance(0), -1);
        CHECK.given(x, "40 b", x.balance(1), 8);
        CHECK.given(x, "40 c", x.balance(2), -7);
        CHECK.refused(x, "40 nobody", x.balance(3), 1);
        CHECK.refused(x, "40 nobody", x.balance(-1), 1);
    }

    private static void quits() {
        LetMe x = Check.at("person a;person b;person c;owes a b 5;owes c b 7;owes b a 4;");
        CHECK.given(x, "41 quits", x.quits(1, 0), 4);
        CHECK.given(x, "41 left", x.owes(0, 1), 1);
        CHECK.given(x, "41 left", x.owes(1, 0), 0);
        CHECK.given(x, "41 again", x.quits(0, 1), 0);
        CHECK.given(x, "41 one way", x.quits(1, 2), 0);
        CHECK.given(x, "41 stays", x.owes(2, 1), 7);
        CHECK.refused(x, "41 itself", x.quits(1, 1), 1);
        CHECK.refused(x, "41 nobody", x.quits(1, 3), 1);
        CHECK.refused(x, "41 nobody", x.quits(-1, 1), 1);
    }

    private static void settle() {
        CHECK.given(new LetMe(), "42 nobody", new LetMe().settle(), 0);
        LetMe x = Check.at(SIX + "owes a b 5;owes b c 5;owes c a 5;");
        CHECK.given(x, "42 a ring", x.settle(), 0);
        LetMe y = Check.at(SIX + "owes a d 5;owes b e 3;owes c f 8;");
        CHECK.given(y, "42 three twos", y.settle(), 3);
        LetMe z = Check.at(SIX + "owes a f 5;owes b f 3;owes c f 8;owes d f 1;owes e f 2;");
        CHECK.given(z, "42 five", z.settle(), 5);
        LetMe v = Check.at(SIX + "owes a c 3;owes b c 4;owes d f 5;owes e f 6;owes a f 1;owes d c 1;");
        CHECK.given(v, "42 by groups", v.settle(), payings(balances(v, 6)));
        CHECK.given(v, "42 changes nothing", v.owes(0, 2), 3);
    }

    private static int[] balances(LetMe x, int many) {
        int[] row = new int[many];
        for (int i = 0; i < many; i++) {
            row[i] = x.balance(i);
        }
        return row;
    }

    /** Whoever is first not 0 pays, or is paid by, some other one of the other sign, all at once. */
    private static int payings(int[] row) {
        int first = 0;
        while (first < row.length && row[first] == 0) {
            first++;
        }
        if (first == row.length) {
            return 0;
        }
        int best = 99;
        for (int other = first + 1; other < row.length; other++) {
            if ((long) row[first] * row[other] < 0) {
                int[] next = row.clone();
                next[other] += next[first];
                next[first] = 0;
                best = Math.min(best, 1 + payings(next));
            }
        }
        return best;
    }

    private static LetMe owing(Random random, int most) {
        LetMe x = Check.at(SIX);
        int debts = random.nextInt(9);
        for (int i = 0; i < debts; i++) {
            int a = random.nextInt(6);
            int b = random.nextInt(6);
            if (a != b) {
                x.lend(a, b, 1 + random.nextInt(most));
            }
        }
        return x;
    }

    private static void settleAtRandom() {
        Random random = new Random(42);
        for (int run = 0; run < 500; run++) {
            LetMe x = owing(random, 1 + run % 7);
            CHECK.due("42 random", x.settle(), payings(balances(x, 6)));
        }
    }

    private static void ties() {
        LetMe x = Check.at("person a;person b;person c;owes a b 5;owes b a 5;");
        CHECK.given(x, "43 both ways", x.ties(), 1);
        x.lend(2, 0, 1);
        CHECK.given(x, "43 one way", x.ties(), 2);
        x.quits(0, 1);
        CHECK.given(x, "43 left", x.ties(), 1);
    }

    private static void extreme() {
        LetMe x = Check.at("person a;person b;person c;person d;owes b c 5;owes a d 5;");
        CHECK.given(x, "44 the least, the first", x.extreme(0), 0);
        CHECK.given(x, "44 the greatest, the first", x.extreme(1), 2);
        x.lend(3, 1, 1);
        CHECK.given(x, "44 the least", x.extreme(0), 1);
        CHECK.given(x, "44 the greatest", x.extreme(1), 3);
        CHECK.refused(x, "44 what -1", x.extreme(-1), 1);
        CHECK.refused(x, "44 what 2", x.extreme(2), 1);
        LetMe nobody = new LetMe();
        CHECK.refused(nobody, "44 nobody", nobody.extreme(1), 6);
        CHECK.refused(nobody, "44 1 ahead of 6", nobody.extreme(2), 1);
        LetMe one = Check.at("person a;");
        CHECK.given(one, "44 alone", one.extreme(0), 0);
        CHECK.given(one, "44 alone", one.extreme(1), 0);
        LetMe guests = Check.at("person a;person b guest;owes a b 3;");
        CHECK.given(guests, "44 a guest, too", guests.extreme(1), 1);
    }

    private static void simplify() {
        LetMe x = Check.at("person a;person b;person c;person d;owes a b 5;owes b c 5;owes d c 2;owes b a 1;");
        CHECK.given(x, "45 simplify", x.simplify(), 3);
        CHECK.given(x, "45 a to c", x.owes(0, 2), 4);
        CHECK.given(x, "45 d to c", x.owes(3, 2), 2);
        CHECK.given(x, "45 b to c", x.owes(1, 2), 1);
        LetMe ring = Check.at("person a;person b;person c;owes a b 5;owes b c 5;owes c a 5;");
        CHECK.given(ring, "45 a ring", ring.simplify(), 0);
        CHECK.given(ring, "45 gone", ring.owes(0, 1), 0);
        LetMe y = Check.at("person a;person b;person c;person d;");
        for (int i = 0; i < 60; i++) {
            y.lend(0, 1, 9_999);
            y.lend(1, 2, 9_999);
            y.lend(0, 3, 9_999);
            y.lend(3, 2, 9_999);
        }
        CHECK.refused(y, "45 above 999,999", y.simplify(), 7);
        CHECK.given(y, "45 nothing changed", y.owes(1, 0), 599_940);
        CHECK.given(y, "45 nothing changed", y.owes(2, 0), 0);
        CHECK.given(y, "45 nothing changed", y.ties(), 4);
    }

    private static void simplifyTheMost() {
        LetMe x = Check.at("person a;person b;person c;");
        for (int i = 0; i < 100; i++) {
            x.lend(0, 1, 9_999);
        }
        x.lend(0, 1, 98);
        x.lend(2, 1, 1);
        x.lend(0, 2, 1);
        CHECK.given(x, "45 just 999,999", x.simplify(), 1);
        CHECK.given(x, "45 just 999,999", x.owes(1, 0), 999_999);
        x.lend(2, 1, 1);
        x.lend(0, 2, 1);
        CHECK.refused(x, "45 1,000,000", x.simplify(), 7);
    }

    private static void simplifyAtRandom() {
        Random random = new Random(45);
        for (int run = 0; run < 300; run++) {
            LetMe x = owing(random, 1 + run % 30);
            int[] row = balances(x, 6);
            int[][] wants = new int[6][6];
            int ties = 0;
            while (true) {
                int poor = 0;
                int rich = 0;
                for (int i = 1; i < 6; i++) {
                    poor = row[i] < row[poor] ? i : poor;
                    rich = row[i] > row[rich] ? i : rich;
                }
                if (row[poor] == 0) {
                    break;
                }
                int much = Math.min(-row[poor], row[rich]);
                wants[poor][rich] = much;
                row[poor] += much;
                row[rich] -= much;
                ties++;
            }
            CHECK.due("45 random", x.simplify(), ties);
            for (int a = 0; a < 6; a++) {
                for (int b = 0; b < 6; b++) {
                    if (a != b) {
                        CHECK.due("45 random owes", x.owes(a, b), wants[a][b]);
                    }
                }
            }
        }
    }

    private static void chain() {
        LetMe x = Check.at(SIX + "owes f e 1;owes e d 1;owes d c 1;owes c b 1;owes b a 1;");
        CHECK.given(x, "46 all others", x.chain(5), 31);
        CHECK.given(x, "46 two", x.chain(2), 3);
        CHECK.given(x, "46 none", x.chain(0), 0);
        x.lend(5, 0, 1);
        CHECK.given(x, "46 a ring, not itself", x.chain(2), 63 - 4);
        CHECK.refused(x, "46 nobody", x.chain(6), 1);
        CHECK.refused(x, "46 nobody", x.chain(-1), 1);
        LetMe y = Check.at(SIX + "owes a b 1;owes b c 1;owes c d 1;owes d e 1;owes e f 1;");
        CHECK.given(y, "46 upward", y.chain(0), 62);
        CHECK.given(y, "46 not the first", y.chain(4), 32);
        y.gift(3, 2, 1);
        CHECK.given(y, "46 broken", y.chain(0), 6);
    }

    private static void even() {
        LetMe x = Check.at("person a;person b;person c;owes b a 10;owes c a 10;");
        CHECK.given(x, "47 by two", x.even(10), 2);
        CHECK.given(x, "48 a", x.evenBy(10, 0), 0);
        CHECK.given(x, "48 b", x.evenBy(10, 1), 1);
        CHECK.given(x, "48 c", x.evenBy(10, 2), 1);
        CHECK.given(x, "47 by four", x.even(5), 4);
        CHECK.given(x, "48 b", x.evenBy(5, 1), 2);
        CHECK.refused(x, "47 not by 3 pence", x.even(3), 6);
        CHECK.refused(x, "48 not by 3 pence", x.evenBy(3, 0), 6);
        CHECK.refused(x, "47 n 0", x.even(0), 1);
        CHECK.refused(x, "47 n 100", x.even(100), 1);
        CHECK.refused(x, "48 n 0", x.evenBy(0, 0), 1);
        CHECK.refused(x, "48 n 100", x.evenBy(100, 0), 1);
        CHECK.refused(x, "48 nobody", x.evenBy(5, 3), 1);
        CHECK.refused(x, "48 nobody", x.evenBy(5, -1), 1);
        LetMe y = Check.at("person a;person b;owes b a 99;");
        CHECK.given(y, "47 by 99", y.even(1), 99);
        CHECK.given(y, "48 by 99", y.evenBy(1, 1), 99);
        y.lend(0, 1, 1);
        CHECK.refused(y, "47 not by 99", y.even(1), 6);
        CHECK.given(y, "47 by 50", y.even(2), 50);
        LetMe g = Check.at("person a;person g guest;person b;person h guest;owes b a 4;owes g h 3;");
        CHECK.given(g, "47 guests do not matter", g.even(4), 1);
        CHECK.given(g, "48 a guest never", g.evenBy(4, 1), 0);
        CHECK.given(g, "48 b", g.evenBy(4, 2), 1);
        CHECK.refused(g, "48 not by 99, a guest", g.evenBy(3, 1), 6);
        g.lend(1, 0, 4);
        CHECK.refused(g, "47 owing a guest", g.even(4), 6);
        LetMe ninetyNine = Check.at("person a;person b;owes b a 99;");
        CHECK.given(ninetyNine, "47 n 99", ninetyNine.even(99), 1);
        LetMe one = Check.at("person a;");
        CHECK.given(one, "47 alone", one.even(5), 0);
        CHECK.given(one, "47 alone, n 1", one.even(1), 0);
        CHECK.given(one, "48 alone, n 1", one.evenBy(1, 0), 0);
        CHECK.given(one, "48 alone", one.evenBy(5, 0), 0);
        LetMe host = Check.at("person a;person g guest;owes g a 5;");
        CHECK.refused(host, "47 alone with a guest that owes", host.even(5), 6);
        LetMe all = Check.at("person a guest;person b guest;owes b a 5;");
        CHECK.given(all, "47 all are guests", all.even(5), 1);
        CHECK.given(all, "48 all are guests", all.evenBy(5, 1), 1);
        CHECK.given(new LetMe(), "47 nobody", new LetMe().even(1), 0);
    }

    /** Every way to give so many dinners to the heads, from none on. */
    private static void evenAtRandom() {
        Random random = new Random(47);
        for (int run = 0; run < 150; run++) {
            int n = 1 + random.nextInt(3);
            LetMe x = Check.at("person a;person b;person c;person g guest;");
            for (int i = 0; i < 3; i++) {
                int a = random.nextInt(3);
                int b = random.nextInt(run % 10 == 0 ? 4 : 3);
                if (a != b) {
                    x.lend(a, b, n * (1 + random.nextInt(6)));
                }
            }
            int[] row = Arrays.copyOf(balances(x, 4), 3);
            int want = -1;
            int[] by = new int[3];
            for (int d = 0; d <= 60 && want < 0; d++) {
                for (int p = 0; p <= d && want < 0; p++) {
                    for (int q = 0; p + q <= d && want < 0; q++) {
                        int[] pays = {p, q, d - p - q};
                        boolean isEven = true;
                        for (int i = 0; i < 3; i++) {
                            isEven &= row[i] + 2 * n * pays[i] - n * (d - pays[i]) == 0;
                        }
                        if (isEven) {
                            want = d;
                            by = pays;
                        }
                    }
                }
            }
            CHECK.due("47 random", x.even(n), want);
            for (int i = 0; i < 3 && want >= 0; i++) {
                CHECK.due("48 random", x.evenBy(n, i), by[i]);
            }
        }
    }
}
