/** Promises 54 to 57: gifts. */
public final class GiftsTest {
    private static final Check CHECK = new Check("GiftsTest");

    public static void main(String[] args) {
        giftAt();
        ends();
        endsByWalking();
        gift();
        CHECK.finish();
    }

    private static void giftAt() {
        LetMe x = new LetMe();
        CHECK.given(x, "54 the first", x.giftAt(999, 100, 0), 999);
        CHECK.given(x, "54 the next", x.giftAt(10, 25, 1), 13);
        CHECK.given(x, "54 rounded down", x.giftAt(3, 50, 1), 5);
        CHECK.given(x, "54 by 1 alone", x.giftAt(1, 0, 60), 61);
        CHECK.given(x, "54 doubled", x.giftAt(1, 100, 18), 524_287);
        CHECK.refused(x, "54 above 999,999", x.giftAt(1, 100, 19), 7);
        CHECK.refused(x, "54 far above", x.giftAt(999, 100, 60), 7);
        CHECK.refused(x, "54 pence 0", x.giftAt(0, 5, 5), 1);
        CHECK.refused(x, "54 pence 1000", x.giftAt(1000, 5, 5), 1);
        CHECK.refused(x, "54 hundredths -1", x.giftAt(5, -1, 5), 1);
        CHECK.refused(x, "54 hundredths 101", x.giftAt(5, 101, 5), 1);
        CHECK.refused(x, "54 k -1", x.giftAt(5, 5, -1), 1);
        CHECK.refused(x, "54 k 61", x.giftAt(5, 5, 61), 1);
        CHECK.refused(x, "54 1 ahead of 7", x.giftAt(999, 100, 61), 1);
    }

    private static void ends() {
        LetMe x = Check.at("person a means 20;person b means 10;person c;person d;person e means 0;");
        CHECK.given(x, "55 b first", x.ends(0, 1, 10, 0), 1);
        CHECK.given(x, "55 b gives the first", x.ends(1, 0, 10, 0), 2);
        CHECK.given(x, "55 at once", x.ends(4, 2, 1, 0), 0);
        CHECK.given(x, "55 the longest", x.ends(2, 3, 1, 0), 999);
        CHECK.given(x, "56 the longest", x.wasted(2, 3, 1, 0), 999 * 500);
        CHECK.given(x, "56 at once", x.wasted(4, 2, 1, 0), 0);
        CHECK.given(x, "56 both", x.wasted(1, 0, 10, 0), 21);
        CHECK.given(x, "55 just the means", x.ends(2, 3, 999, 100), 1);
        CHECK.refused(x, "55 itself", x.ends(0, 0, 5, 5), 1);
        CHECK.refused(x, "55 nobody", x.ends(0, 5, 5, 5), 1);
        CHECK.refused(x, "55 nobody", x.ends(-1, 0, 5, 5), 1);
        CHECK.refused(x, "55 pence", x.ends(0, 1, 0, 5), 1);
        CHECK.refused(x, "55 pence", x.ends(0, 1, 1000, 5), 1);
        CHECK.refused(x, "55 hundredths", x.ends(0, 1, 5, 101), 1);
        CHECK.refused(x, "55 hundredths", x.ends(0, 1, 5, -1), 1);
        CHECK.refused(x, "56 itself", x.wasted(0, 0, 5, 5), 1);
        CHECK.refused(x, "56 nobody", x.wasted(5, 0, 5, 5), 1);
        CHECK.refused(x, "56 pence", x.wasted(0, 1, 1000, 5), 1);
        CHECK.refused(x, "56 hundredths", x.wasted(0, 1, 5, 101), 1);
    }

    private static void endsByWalking() {
        int[] means = {0, 7, 50, 400, 999};
        for (int first : means) {
            for (int second : means) {
                LetMe x = Check.at("person a means " + first + ";person b means " + second + ";");
                for (int hundredths = 0; hundredths <= 100; hundredths += 20) {
                    long worth = 5;
                    int given = 0;
                    long sum = 0;
                    while (worth <= (given % 2 == 0 ? first : second)) {
                        sum += worth;
                        worth += (long) Math.floor(worth * hundredths / 100.0) + 1;
                        given++;
                    }
                    CHECK.given(x, "55 walked", x.ends(0, 1, 5, hundredths), given);
                    CHECK.given(x, "56 walked", x.wasted(0, 1, 5, hundredths), sum);
                }
            }
        }
    }

    private static void gift() {
        LetMe x = Check.at("person a;person b;owes b a 30;owes a b 9;");
        CHECK.given(x, "57 less", x.gift(0, 1, 10), 20);
        CHECK.given(x, "57 the other way stays", x.owes(0, 1), 9);
        CHECK.given(x, "57 0 at least", x.gift(0, 1, 9_999), 0);
        CHECK.given(x, "57 the other way", x.gift(1, 0, 1), 8);
        CHECK.given(x, "57 gifts given", x.told(9), 3);
        CHECK.refused(x, "57 itself", x.gift(0, 0, 5), 1);
        CHECK.refused(x, "57 nobody", x.gift(0, 2, 5), 1);
        CHECK.refused(x, "57 nobody", x.gift(-1, 0, 5), 1);
        CHECK.refused(x, "57 much 0", x.gift(0, 1, 0), 1);
        CHECK.refused(x, "57 much 10000", x.gift(0, 1, 10_000), 1);
        CHECK.given(x, "57 gifts given", x.told(9), 3);
    }
}
