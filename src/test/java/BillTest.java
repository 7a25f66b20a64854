import java.util.Random;

/** Promises 16 to 27: the BILL. */
public final class BillTest {
    private static final Check CHECK = new Check("BillTest");
    private static final String FIVE = "person a;person b guest;person c;person d;person e guest;";

    public static void main(String[] args) {
        eaten();
        due();
        allGuests();
        couplesWithGuests();
        unfair();
        dearer();
        hardest();
        ordering();
        splitAndLaw();
        second();
        secondAtRandom();
        padded();
        atRandom();
        CHECK.finish();
    }

    private static void eaten() {
        LetMe x = Check.at(FIVE + "dish 10 by c;dish 4;dish 3;dish 20 by c;dish 6 by e;");
        int[] wants = {2, 2, 31, 1, 7};
        for (int i = 0; i < 5; i++) {
            CHECK.given(x, "16 eaten(" + i + ")", x.eaten(i), wants[i]);
        }
        CHECK.refused(x, "16 person -1", x.eaten(-1), 1);
        CHECK.refused(x, "16 person 5", x.eaten(5), 1);
    }

    private static void dues(LetMe x, int split, int... wants) {
        for (int i = 0; i < wants.length; i++) {
            CHECK.given(x, "17 due(" + i + ", " + split + ")", x.due(i, split), wants[i]);
        }
    }

    private static void due() {
        LetMe x = Check.at(FIVE + "couple d a;dish 10 by c;dish 4;dish 3;dish 20 by c;dish 6 by e;");
        dues(x, 0, 15, 0, 14, 14, 0);
        dues(x, 1, 5, 0, 34, 4, 0);
        dues(x, 2, 22, 0, 21, 0, 0);
        CHECK.refused(x, "17 person -1", x.due(-1, 0), 1);
        CHECK.refused(x, "17 person 5", x.due(5, 0), 1);
        CHECK.refused(x, "17 split -1", x.due(0, -1), 1);
        CHECK.refused(x, "17 split 3", x.due(0, 3), 1);
        LetMe y = Check.at("person a;person b;");
        dues(y, 0, 0, 0);
        dues(y, 1, 0, 0);
        dues(y, 2, 0, 0);
    }

    private static void allGuests() {
        LetMe x = Check.at("person a guest;person b guest;person c guest;couple b c;dish 10;dish 7 by b;");
        dues(x, 0, 6, 6, 5);
        dues(x, 1, 4, 10, 3);
        dues(x, 2, 9, 8, 0);
        CHECK.given(x, "18 unfair(1)", x.unfair(1), 0);
    }

    private static void couplesWithGuests() {
        LetMe x = Check.at("person a;person b guest;person c;person d;couple a b;couple d c;dish 101;");
        dues(x, 2, 51, 0, 50, 0);
        dues(x, 0, 34, 0, 34, 33);
    }

    private static void unfair() {
        LetMe x = Check.at("person a;person b;person c;couple b c;dish 30 by a;dish 6 by b;");
        CHECK.given(x, "18 heads", x.unfair(0), 18 + 6 + 12);
        CHECK.given(x, "18 eaten", x.unfair(1), 0);
        CHECK.given(x, "18 couples", x.unfair(2), 12 + 12);
        CHECK.refused(x, "18 split -1", x.unfair(-1), 1);
        CHECK.refused(x, "18 split 3", x.unfair(3), 1);
        CHECK.given(x, "19 fairest", x.fairest(), 1);
        LetMe y = Check.at("person a;person b;dish 30;");
        CHECK.given(y, "19 of several the first", y.fairest(), 0);
        LetMe z = Check.at("person a;person b;person c guest;couple a b;dish 40 by a;dish 30 by c;");
        CHECK.given(z, "18 heads", z.unfair(0), 5 + 35 + 30);
        CHECK.given(z, "18 eaten", z.unfair(1), 60);
        CHECK.given(z, "18 couples", z.unfair(2), 60);
        CHECK.given(z, "19 1 ahead of 2", z.fairest(), 1);
        LetMe v = Check.at("person a;person b guest;person c;couple a c;dish 50 by a;dish 9 by b;dish 1;");
        CHECK.given(v, "18 couples", v.unfair(2), 9 + 9);
        CHECK.given(v, "18 eaten", v.unfair(1), 9 + 9);
        LetMe w = Check.at("person a;person b;person c guest;couple a b;dish 60 by a;dish 1 by b;dish 30 by c;");
        CHECK.given(w, "18 heads", w.unfair(0), 14 + 44 + 30);
        CHECK.given(w, "18 eaten", w.unfair(1), 60);
        CHECK.given(w, "18 couples", w.unfair(2), 31 + 1 + 30);
        LetMe u = Check.at("person a;person b;person c guest;couple a b;dish 60 by a;dish 31 by c;dish 1;");
        CHECK.given(u, "18 couples", u.unfair(2), 31 + 31);
        LetMe t = Check.at("person a;person b;couple a b;dish 60 by a;");
        CHECK.given(t, "19 not the later one of two", t.fairest(), 1);
        LetMe nobody = new LetMe();
        CHECK.given(nobody, "19 nobody", nobody.fairest(), 0);
    }

    private static void dearer() {
        LetMe x = Check.at("person a;person b;person c;dish 30 by a;dish 6 by b;dish 1;");
        CHECK.given(x, "20 less", x.dearer(0, 0, 1), 13 - 31);
        CHECK.given(x, "20 more", x.dearer(0, 1, 0), 31 - 13);
        CHECK.given(x, "20 the same", x.dearer(2, 0, 2), 0);
        LetMe y = Check.at("person a;person b;dish 3 by a;dish 2 by b;");
        CHECK.given(y, "20 -1 with status 0", y.dearer(1, 0, 1), 0);
        LetMe z = Check.at("person a;person b;dish 1 by b;");
        CHECK.given(z, "20 -1 with status 0", z.dearer(1, 0, 1), -1);
        CHECK.refused(x, "20 person", x.dearer(3, 0, 1), 1);
        CHECK.refused(x, "20 person", x.dearer(-1, 0, 1), 1);
        CHECK.refused(x, "20 split", x.dearer(0, 3, 1), 1);
        CHECK.refused(x, "20 other", x.dearer(0, 0, -1), 1);
    }

    private static void hardest() {
        LetMe x = Check.at("person a guest;person b;person c;dish 6 by b;dish 7 by c;dish 100 by a;");
        CHECK.given(x, "21 heads", x.hardest(0), 1);
        CHECK.given(x, "21 eaten", x.hardest(1), 2);
        CHECK.given(x, "21 couples", x.hardest(2), 1);
        CHECK.refused(x, "21 split", x.hardest(3), 1);
        CHECK.refused(x, "21 split", x.hardest(-1), 1);
        LetMe nobody = new LetMe();
        CHECK.refused(nobody, "21 nobody", nobody.hardest(0), 6);
        CHECK.refused(nobody, "21 1 ahead of 6", nobody.hardest(3), 1);
        LetMe y = Check.at("person a;person b;");
        CHECK.given(y, "21 no bill: the first", y.hardest(1), 0);
        LetMe one = Check.at("person a;");
        CHECK.given(one, "21 alone", one.hardest(2), 0);
    }

    private static void ordering() {
        LetMe x = Check.at("person a;person b;dish 5 by a;");
        CHECK.given(x, "22 by one", x.order(999, 1), 2);
        CHECK.given(x, "22 common", x.order(1, LetMe.NONE), 3);
        CHECK.given(x, "22 price", x.dish(1, 0), 999);
        CHECK.given(x, "22 by", x.dish(1, 1), 1);
        CHECK.refused(x, "22 common", x.dish(2, 1), 6);
        CHECK.given(x, "22 the bill", x.told(5), 1005);
        CHECK.refused(x, "22 price 0", x.order(0, 1), 1);
        CHECK.refused(x, "22 price 1000", x.order(1000, 1), 1);
        CHECK.refused(x, "22 person -2", x.order(5, -2), 1);
        CHECK.refused(x, "22 person 2", x.order(5, 2), 1);
        CHECK.given(x, "23 strike", x.strike(), 1);
        CHECK.given(x, "23 strike", x.strike(), 999);
        CHECK.given(x, "23 left", x.told(2), 1);
        CHECK.given(x, "23 strike", x.strike(), 5);
        CHECK.refused(x, "23 none", x.strike(), 6);
        for (int i = 1; i <= 16; i++) {
            CHECK.given(x, "22 order", x.order(i, LetMe.NONE), i);
        }
        CHECK.refused(x, "22 one too many", x.order(5, 0), 4);
        CHECK.refused(x, "22 1 ahead of 4", x.order(0, 0), 1);
        CHECK.given(x, "22 nothing changed", x.told(5), 136);
        LetMe y = new LetMe();
        CHECK.given(y, "22 without people", y.order(7, LetMe.NONE), 1);
        CHECK.refused(y, "22 without people", y.order(7, 0), 1);
    }

    private static void splitAndLaw() {
        LetMe x = Check.at("person a;person b;dish 9 by b;");
        for (int split = 2; split >= 0; split--) {
            CHECK.granted(x, "24 split", x.split(split));
            CHECK.given(x, "24 told", x.told(3), split);
        }
        x.split(1);
        CHECK.denied(x, "24 -1", x.split(-1), 1);
        CHECK.denied(x, "24 3", x.split(3), 1);
        CHECK.given(x, "24 stays", x.told(3), 1);
        x.pay(0);
        CHECK.given(x, "24 paid by it", x.owes(1, 0), 9);
        for (int law = 3; law >= 0; law--) {
            CHECK.granted(x, "25 law", x.law(law));
            CHECK.given(x, "25 told", x.told(4), law);
        }
        x.law(2);
        CHECK.denied(x, "25 -1", x.law(-1), 1);
        CHECK.denied(x, "25 4", x.law(4), 1);
        CHECK.given(x, "25 stays", x.told(4), 2);
    }

    private static void second() {
        LetMe x = Check.at("dish 10;dish 5;dish 5;dish 7;dish 3;dish 20;");
        CHECK.given(x, "26 fewest", x.second(10, 0), 1);
        CHECK.given(x, "26 sets", x.second(10, 1), 3);
        CHECK.given(x, "26 the least of the fewest", x.second(10, 2), 1);
        CHECK.given(x, "26 fewest", x.second(15, 0), 2);
        CHECK.given(x, "26 least", x.second(15, 2), 3);
        CHECK.given(x, "26 all", x.second(50, 0), 6);
        CHECK.given(x, "26 all", x.second(50, 2), 63);
        CHECK.given(x, "26 fewest of two", x.second(8, 0), 2);
        CHECK.given(x, "26 least of two", x.second(8, 2), 2 + 16);
        for (int what = 0; what < 3; what++) {
            CHECK.refused(x, "26 none", x.second(51, what), 6);
            CHECK.refused(x, "26 none", x.second(1, what), 6);
            CHECK.refused(x, "26 none", x.second(9_999, what), 6);
            CHECK.refused(x, "26 amount 0", x.second(0, what), 1);
            CHECK.refused(x, "26 amount 10000", x.second(10_000, what), 1);
        }
        CHECK.refused(x, "26 what -1", x.second(10, -1), 1);
        CHECK.refused(x, "26 what 3", x.second(10, 3), 1);
        LetMe y = Check.at("dish 5;".repeat(16));
        CHECK.given(y, "26 the most sets", y.second(40, 1), 12870);
        CHECK.given(y, "26 the least", y.second(40, 2), 255);
        LetMe z = new LetMe();
        CHECK.refused(z, "26 no dishes", z.second(1, 1), 6);
    }

    private static void secondAtRandom() {
        Random random = new Random(26);
        for (int run = 0; run < 60; run++) {
            LetMe x = new LetMe();
            int many = 1 + random.nextInt(10);
            int[] prices = new int[many];
            for (int i = 0; i < many; i++) {
                prices[i] = 1 + random.nextInt(12);
                x.order(prices[i], LetMe.NONE);
            }
            int amount = 1 + random.nextInt(40);
            int sets = 0;
            int fewest = 99;
            int least = 0;
            for (int set = 1; set < 1 << many; set++) {
                int sum = 0;
                for (int i = 0; i < many; i++) {
                    sum += (set >> i & 1) * prices[i];
                }
                if (sum == amount) {
                    sets++;
                    if (Integer.bitCount(set) < fewest) {
                        fewest = Integer.bitCount(set);
                        least = set;
                    }
                }
            }
            CHECK.due("26 random fewest", x.second(amount, 0), sets == 0 ? -1 : fewest);
            CHECK.due("26 random sets", x.second(amount, 1), sets == 0 ? -1 : sets);
            CHECK.due("26 random least", x.second(amount, 2), sets == 0 ? -1 : least);
        }
    }

    private static void padded() {
        LetMe x = Check.at("dish 10;dish 5;");
        CHECK.given(x, "27 more", x.padded(99_999), 99_984);
        CHECK.given(x, "27 the same", x.padded(15), 0);
        CHECK.given(x, "27 -1 with status 0", x.padded(14), -1);
        CHECK.given(x, "27 less", x.padded(0), -15);
        CHECK.refused(x, "27 below 0", x.padded(-1), 1);
        CHECK.refused(x, "27 above", x.padded(100_000), 1);
    }

    /** All DUES are the BILL, and no two of those who pay alike are further apart than 1. */
    private static void atRandom() {
        Random random = new Random(17);
        for (int run = 0; run < 200; run++) {
            int many = 1 + random.nextInt(6);
            StringBuilder text = new StringBuilder();
            for (int i = 0; i < many; i++) {
                text.append("person ").append((char) ('p' + i)).append(random.nextInt(3) == 0 ? " guest;" : ";");
            }
            if (many > 3) {
                text.append("couple r p;");
            }
            LetMe x = Check.at(text.toString());
            int dishes = random.nextInt(17);
            for (int i = 0; i < dishes; i++) {
                x.order(1 + random.nextInt(999), random.nextInt(many + 1) - 1);
            }
            int eaten = 0;
            for (int i = 0; i < many; i++) {
                eaten += x.eaten(i);
            }
            CHECK.due("16 all is eaten", eaten, x.told(5));
            for (int split = 0; split < 3; split++) {
                int sum = 0;
                int unlike = 0;
                for (int i = 0; i < many; i++) {
                    int due = x.due(i, split);
                    sum += due;
                    unlike += Math.abs(due - x.eaten(i));
                    boolean isFree = x.told(6) < many && (x.told(10) >> i & 1) == 1;
                    CHECK.due("17 guests are free", isFree && due != 0, false);
                }
                CHECK.due("17 all dues are the bill", sum, x.told(5));
                CHECK.due("18 unfair", x.unfair(split), unlike);
            }
        }
    }
}
