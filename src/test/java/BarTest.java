import java.util.Random;

/** Promises 49 to 53: ROUNDS. */
public final class BarTest {
    private static final Check CHECK = new Check("BarTest");

    public static void main(String[] args) {
        comes();
        rounds();
        evenRounds();
        evenAtRandom();
        CHECK.finish();
    }

    private static void comes() {
        LetMe x = Check.at("person a;person b;person c;");
        CHECK.refused(x, "49 in already", x.comes(1, 1), 7);
        CHECK.given(x, "49 leaves", x.comes(1, 0), 2);
        CHECK.refused(x, "49 out already", x.comes(1, 0), 7);
        CHECK.given(x, "49 those in", x.told(11), 5);
        CHECK.given(x, "49 comes", x.comes(1, 1), 3);
        CHECK.refused(x, "49 nobody", x.comes(3, 1), 1);
        CHECK.refused(x, "49 nobody", x.comes(-1, 1), 1);
        CHECK.refused(x, "49 what 2", x.comes(1, 2), 1);
        CHECK.refused(x, "49 what -1", x.comes(1, -1), 1);
        CHECK.given(x, "49 all stay", x.told(11), 7);
    }

    private static void rounds() {
        LetMe x = Check.at("person a;person b guest;person c;");
        CHECK.given(x, "50 the first", x.buys(), 0);
        CHECK.given(x, "51 the first", x.round(), 0);
        CHECK.given(x, "52 a", x.drinks(0), -2);
        CHECK.given(x, "52 b", x.drinks(1), 1);
        CHECK.given(x, "50 b next, a guest too", x.buys(), 1);
        CHECK.given(x, "50 changes nothing", x.told(8), 1);
        x.comes(1, 0);
        CHECK.given(x, "50 not who left", x.buys(), 2);
        CHECK.given(x, "51 c for two", x.round(), 2);
        CHECK.given(x, "52 c", x.drinks(2), 0);
        CHECK.given(x, "52 -1 with status 0", x.drinks(0), -1);
        CHECK.given(x, "52 who left had none", x.drinks(1), 1);
        x.comes(1, 1);
        CHECK.given(x, "51 b is back", x.round(), 1);
        CHECK.given(x, "52 b", x.drinks(1), -1);
        CHECK.given(x, "13 rounds", x.told(8), 3);
        CHECK.refused(x, "52 nobody", x.drinks(3), 1);
        CHECK.refused(x, "52 nobody", x.drinks(-1), 1);
        for (int i = 0; i < 3; i++) {
            x.comes(i, 0);
        }
        CHECK.refused(x, "50 nobody is in", x.buys(), 6);
        CHECK.refused(x, "51 nobody is in", x.round(), 6);
        CHECK.refused(x, "53 nobody is in", x.evenRounds(), 6);
        CHECK.given(x, "51 no round", x.told(8), 3);
        x.comes(2, 1);
        int before = x.drinks(2);
        CHECK.given(x, "51 alone", x.round(), 2);
        CHECK.given(x, "52 alone for himself", x.drinks(2), before);
    }

    private static void evenRounds() {
        LetMe x = Check.at("person a;person b;person c;person d;");
        CHECK.given(x, "53 at first", x.evenRounds(), 0);
        x.round();
        CHECK.given(x, "53 three more", x.evenRounds(), 3);
        CHECK.given(x, "53 changes nothing", x.told(8), 1);
        x.comes(0, 0);
        CHECK.given(x, "53 those in are even", x.evenRounds(), 0);
        x.comes(0, 1);
        x.comes(3, 0);
        CHECK.refused(x, "53 never", evenAfter(x), 6);
        LetMe y = Check.at("person a;person b;");
        for (int i = 0; i < 61; i++) {
            y.comes(1, 0);
            y.comes(0, 0);
            y.comes(0, 1);
            y.comes(1, 1);
        }
        CHECK.given(y, "53 comings alone change nothing", y.evenRounds(), 0);
    }

    private static void evenAtRandom() {
        Random random = new Random(53);
        for (int run = 0; run < 100; run++) {
            LetMe x = Check.at("person a;person b;person c;person d;person e;person f;");
            for (int i = 0; i < 20; i++) {
                x.comes(random.nextInt(1 + run % 6), random.nextInt(2));
                x.round();
            }
            int told = x.evenRounds();
            CHECK.due("53 random", told, walked(x));
        }
    }

    private static int evenAfter(LetMe x) {
        x.round();
        x.comes(2, 0);
        x.round();
        x.comes(2, 1);
        return x.evenRounds();
    }

    /** What evenRounds() must tell: rounds are had, on paper, until those who are in are even. */
    private static int walked(LetMe x) {
        int people = x.told(0);
        int in = x.told(11);
        int[] ahead = new int[people];
        for (int i = 0; i < people; i++) {
            ahead[i] = x.drinks(i);
        }
        for (int rounds = 0; rounds <= 60; rounds++) {
            int buyer = -1;
            boolean isEven = true;
            for (int i = 0; i < people; i++) {
                if ((in >> i & 1) == 1) {
                    isEven &= buyer < 0 || ahead[i] == ahead[buyer];
                    buyer = buyer < 0 || ahead[i] > ahead[buyer] ? i : buyer;
                }
            }
            if (isEven) {
                return rounds;
            }
            for (int i = 0; i < people; i++) {
                ahead[i] += in >> i & 1;
            }
            ahead[buyer] -= Integer.bitCount(in);
        }
        return LetMe.NONE;
    }
}
