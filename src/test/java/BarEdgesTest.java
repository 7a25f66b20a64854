/** The bounds that the document names for promises 49 to 53: ROUNDS. */
public final class BarEdgesTest {
    private static final Check CHECK = new Check("BarEdgesTest");
    private static final int LEAST = Integer.MIN_VALUE;
    private static final int MOST = Integer.MAX_VALUE;
    private static final int[] NOBODY = {LEAST, -2, -1, 4, 5, 6, 32, MOST};
    private static final String SIX = "person a;person b;person c;person d;person e;person f;";

    public static void main(String[] args) {
        noSuchPerson();
        inOrOut();
        itIsSoAlready();
        untilNobodyIsIn();
        nobodyIsThere();
        alone();
        allSix();
        ofSeveralTheFirst();
        whoIsOutHasNone();
        drinksTellMinusOne();
        evenAtOnce();
        evenBehindSix();
        neverEven();
        CHECK.finish();
    }

    private static void noSuchPerson() {
        Still still = new Still(CHECK, Still::richAndFed);
        for (int person : NOBODY) {
            still.refused("49 person " + person, x -> x.comes(person, 0), 1);
            still.refused("49 person " + person, x -> x.comes(person, 1), 1);
            still.refused("52 person " + person, x -> x.drinks(person), 1);
        }
        still.given("50 buys", LetMe::buys, 2);
        still.given("52 drinks", x -> x.drinks(0), 0);
        still.refused("53 never", LetMe::evenRounds, 6);
    }

    /** "Comes IN (what 1) or LEAVES (0)." */
    private static void inOrOut() {
        Still still = new Still(CHECK, Still::richAndFed);
        for (int what : new int[] {LEAST, -2, -1, 2, 3, MOST}) {
            for (int person = 0; person < 4; person++) {
                int who = person;
                still.refused("49 what " + what, x -> x.comes(who, what), 1);
            }
        }
    }

    /** "7: it is so already." */
    private static void itIsSoAlready() {
        Still still = new Still(CHECK, Still::richAndFed);
        for (int person = 0; person < 3; person++) {
            int who = person;
            still.refused("49 in already " + who, x -> x.comes(who, 1), 7);
        }
        still.refused("49 out already", x -> x.comes(3, 0), 7);
        still.refused("49 1 ahead of 7", x -> x.comes(4, 0), 1);
        LetMe x = Still.richAndFed();
        CHECK.given(x, "49 comes", x.comes(3, 1), 4);
        CHECK.refused(x, "49 in already", x.comes(3, 1), 7);
        CHECK.given(x, "49 leaves", x.comes(0, 0), 3);
        CHECK.refused(x, "49 out already", x.comes(0, 0), 7);
        CHECK.given(x, "13 those in", x.told(11), 14);
    }

    private static LetMe allOut() {
        LetMe x = Still.rich();
        for (int i = 0; i < 3; i++) {
            CHECK.given(x, "49 leaves", x.comes(i, 0), 2 - i);
        }
        return x;
    }

    /** "6: nobody is IN." */
    private static void untilNobodyIsIn() {
        Still still = new Still(CHECK, BarEdgesTest::allOut);
        still.refused("50 nobody is in", LetMe::buys, 6);
        still.refused("51 nobody is in", LetMe::round, 6);
        still.refused("53 nobody is in", LetMe::evenRounds, 6);
        LetMe x = allOut();
        CHECK.given(x, "49 the first again", x.comes(2, 1), 1);
        CHECK.given(x, "50 the only one", x.buys(), 2);
        CHECK.given(x, "53 the only one", x.evenRounds(), 0);
    }

    private static void nobodyIsThere() {
        Still still = new Still(CHECK, LetMe::new);
        still.refused("49 nobody", x -> x.comes(0, 1), 1);
        still.refused("50 nobody", LetMe::buys, 6);
        still.refused("51 nobody", LetMe::round, 6);
        still.refused("52 nobody", x -> x.drinks(0), 1);
        still.refused("53 nobody", LetMe::evenRounds, 6);
    }

    /** "BOUGHT for as many as are IN": of one who is alone it is all his own. */
    private static void alone() {
        LetMe x = Check.at("person a;");
        for (int i = 1; i <= 3; i++) {
            CHECK.given(x, "51 alone", x.round(), 0);
            CHECK.given(x, "52 alone", x.drinks(0), 0);
            CHECK.given(x, "53 alone", x.evenRounds(), 0);
            CHECK.given(x, "13 rounds", x.told(8), i);
        }
    }

    private static void drinks(LetMe x, String call, int... wants) {
        for (int i = 0; i < wants.length; i++) {
            CHECK.given(x, "52 " + call + " " + i, x.drinks(i), wants[i]);
        }
    }

    private static void allSix() {
        LetMe x = Check.at(SIX);
        int[][] wants = {{-5, 1, 1, 1, 1, 1}, {-4, -4, 2, 2, 2, 2}, {-3, -3, -3, 3, 3, 3}, {-2, -2, -2, -2, 4, 4}, {-1, -1, -1, -1, -1, 5},
            {0, 0, 0, 0, 0, 0}, {-5, 1, 1, 1, 1, 1}};
        for (int i = 0; i < wants.length; i++) {
            CHECK.given(x, "50 buys", x.buys(), i % 6);
            CHECK.given(x, "53 even", x.evenRounds(), i % 6 == 0 ? 0 : 6 - i % 6);
            CHECK.given(x, "51 round", x.round(), i % 6);
            drinks(x, "of six", wants[i]);
        }
    }

    private static void ofSeveralTheFirst() {
        LetMe x = Check.at("person a;person b;person c;person d;");
        x.round();
        CHECK.given(x, "50 the first of three", x.buys(), 1);
        x.comes(1, 0);
        CHECK.given(x, "50 the first of two", x.buys(), 2);
        x.comes(2, 0);
        CHECK.given(x, "50 the last", x.buys(), 3);
        x.comes(3, 0);
        CHECK.given(x, "50 the least of all, but in", x.buys(), 0);
    }

    private static void whoIsOutHasNone() {
        LetMe x = Check.at("person a;person b;person c guest;");
        x.comes(1, 0);
        CHECK.given(x, "51 for two", x.round(), 0);
        drinks(x, "for two", -1, 0, 1);
        x.comes(0, 0);
        x.comes(1, 1);
        CHECK.given(x, "51 a guest, for two", x.round(), 2);
        drinks(x, "for other two", -1, 1, 0);
        x.comes(0, 1);
        CHECK.given(x, "51 for three", x.round(), 1);
        drinks(x, "for three", 0, -1, 1);
        x.comes(2, 0);
        x.comes(2, 1);
        drinks(x, "who comes again has what he had", 0, -1, 1);
    }

    /** "STATUS tells NONE from -1." */
    private static void drinksTellMinusOne() {
        LetMe x = Check.at("person a;person b;");
        x.round();
        x.told(-1);
        CHECK.given(x, "52 -1", x.drinks(0), -1);
        CHECK.given(x, "52 1", x.drinks(1), 1);
        CHECK.refused(x, "52 NONE", x.drinks(2), 1);
    }

    /** "0 to 60": 0 where all who are IN have the same already, whatever those have who are out. */
    private static void evenAtOnce() {
        LetMe x = Check.at("person a;person b;person c;");
        CHECK.given(x, "53 at first", x.evenRounds(), 0);
        x.round();
        CHECK.given(x, "53 two more", x.evenRounds(), 2);
        x.comes(0, 0);
        CHECK.given(x, "53 without him", x.evenRounds(), 0);
        x.comes(0, 1);
        CHECK.given(x, "53 with him", x.evenRounds(), 2);
        CHECK.given(x, "53 changes nothing", x.told(8), 1);
    }

    /** No run of ROUNDS comes to more than six (each was looked at, to the last); then it is even, and not ahead of it. */
    private static void evenBehindSix() {
        LetMe x = Check.at(SIX);
        for (int i = 0; i < 3; i++) {
            CHECK.given(x, "51 round", x.round(), i);
            x.comes(i, 0);
        }
        x.comes(0, 1);
        drinks(x, "ahead of it", -5, -3, -1, 3, 3, 3);
        for (int left = 6; left >= 0; left--) {
            CHECK.given(x, "53 left", x.evenRounds(), left);
            x.round();
        }
        CHECK.given(x, "53 behind it", x.evenRounds(), 3);
    }

    private static LetMe odd() {
        LetMe x = Check.at("person a;person b;person c;person d;");
        x.comes(3, 0);
        x.round();
        x.comes(2, 0);
        x.round();
        x.comes(2, 1);
        return x;
    }

    /** "6: not by 60." */
    private static void neverEven() {
        Still still = new Still(CHECK, BarEdgesTest::odd);
        still.refused("53 not by 60", LetMe::evenRounds, 6);
        LetMe x = odd();
        for (int i = 0; i < 70; i++) {
            x.round();
            CHECK.due("53 never", x.evenRounds(), LetMe.NONE);
        }
        CHECK.due("53 never", x.status(), 6);
    }
}
