import java.util.function.Supplier;

/** The bounds that the document names for promises 58 and 59: receipts. */
public final class ReceiptsEdgesTest {
    private static final Check CHECK = new Check("ReceiptsEdgesTest");
    private static final int LEAST = Integer.MIN_VALUE;
    private static final int MOST = Integer.MAX_VALUE;

    public static void main(String[] args) {
        noSuchTray();
        pence();
        dinners();
        noHeads();
        missing();
        tooFewDinners();
        tooFewPlaces();
        whoPaidIsNoPerson();
        askedInThisOrder();
        balancesOfReceipts();
        guestsMayHavePaid();
        cutToTheSort();
        sixtyDinners();
        toItsOwnTray();
        rememberNoSuchTray();
        rememberMissing();
        rememberTooFew();
        rememberTooMuch();
        rememberOrder();
        nobodyIsOff();
        offByTheMost();
        offOfSeveral();
        CHECK.finish();
    }

    /** TRAY 0: who paid four dinners; TRAY 1: five places of 32 bits; TRAY 2: three of 64 bits; TRAY 3 is MISSING. */
    private static LetMe laid() {
        LetMe x = Check.at("person a;person b;person c;person g guest;owes a b 30;owes c b 12;");
        x.tray(0, 0, 4);
        int[] paid = {0, 2, 0, 3};
        for (int i = 0; i < 4; i++) {
            x.write(0, i, paid[i]);
        }
        x.tray(1, 2, 5);
        for (int i = 0; i < 5; i++) {
            x.write(1, i, 1_000 + i);
        }
        x.tray(2, 3, 3);
        Check.feed(x, "person z;");
        return x;
    }

    private static void row(LetMe x, String call, int tray, long... wants) {
        for (int i = 0; i < wants.length; i++) {
            CHECK.given(x, call + " at " + i, x.read(tray, i), wants[i]);
        }
    }

    private static void noSuchTray() {
        Still still = new Still(CHECK, ReceiptsEdgesTest::laid);
        for (int tray : new int[] {LEAST, -2, -1, 4, 5, MOST}) {
            still.refused("58 tray " + tray, x -> x.receipts(tray, 1, 5, 1), 1);
            still.refused("58 to " + tray, x -> x.receipts(0, 1, 5, tray), 1);
        }
    }

    /** "Of n pence (1 to 999)." */
    private static void pence() {
        Still still = new Still(CHECK, ReceiptsEdgesTest::laid);
        for (int n : new int[] {LEAST, -1, 0, 1_000, 1_001, MOST}) {
            still.refused("58 n " + n, x -> x.receipts(0, 1, n, 1), 1);
            still.refused("58 n " + n + ", of none", x -> x.receipts(0, 0, n, 1), 1);
        }
        for (int n : new int[] {1, 2, 998, 999}) {
            LetMe x = laid();
            CHECK.given(x, "58 n " + n, x.receipts(0, 1, n, 1), 4);
            row(x, "58 n " + n, 1, 2 * n, -n, -n, 0, 1_004);
        }
    }

    /** "Dinners below 0." */
    private static void dinners() {
        Still still = new Still(CHECK, ReceiptsEdgesTest::laid);
        for (int dinners : new int[] {LEAST, -2, -1}) {
            still.refused("58 dinners " + dinners, x -> x.receipts(0, dinners, 5, 1), 1);
        }
        LetMe x = laid();
        CHECK.given(x, "58 of none", x.receipts(0, 0, 5, 1), 4);
        row(x, "58 of none", 1, 0, 0, 0, 0, 1_004);
        x.tray(3, 2, 0);
        CHECK.given(x, "58 of a row of none", x.receipts(3, 0, 5, 1), 4);
        CHECK.refused(x, "58 one of a row of none", x.receipts(3, 1, 5, 1), 3);
    }

    /** "No HEADS": 1, ahead of all others. */
    private static void noHeads() {
        Supplier<LetMe> nobody = () -> {
            LetMe x = new LetMe();
            x.tray(0, 0, 2);
            x.tray(1, 0, 2);
            return x;
        };
        Still still = new Still(CHECK, nobody);
        still.refused("58 nobody", x -> x.receipts(0, 0, 5, 1), 1);
        still.refused("58 nobody", x -> x.receipts(0, 2, 5, 1), 1);
        still.refused("58 nobody, ahead of 2", x -> x.receipts(2, 0, 5, 3), 1);
        still.refused("58 nobody, ahead of 3", x -> x.receipts(0, 3, 5, 1), 1);
    }

    private static void missing() {
        Still still = new Still(CHECK, ReceiptsEdgesTest::laid);
        still.refused("58 missing", x -> x.receipts(3, 0, 5, 1), 2);
        still.refused("58 to missing", x -> x.receipts(0, 0, 5, 3), 2);
        still.refused("58 both missing", x -> x.receipts(3, 0, 5, 3), 2);
    }

    /** "The first numbers of the first TRAY": 3 where it has too few. */
    private static void tooFewDinners() {
        Still still = new Still(CHECK, ReceiptsEdgesTest::laid);
        for (int dinners : new int[] {5, 6, 60, 61, MOST}) {
            still.refused("58 dinners " + dinners, x -> x.receipts(0, dinners, 5, 1), 3);
        }
        LetMe x = laid();
        CHECK.given(x, "58 just all", x.receipts(0, 4, 5, 1), 4);
        row(x, "58 just all", 1, 2 * 10 - 5 - 5, -4 * 5, 10 - 3 * 5, 15, 1_004);
    }

    /** 3 where there are fewer places than PEOPLE. */
    private static void tooFewPlaces() {
        Still still = new Still(CHECK, ReceiptsEdgesTest::laid);
        still.refused("58 one place too few", x -> x.receipts(0, 1, 5, 2), 3);
        still.refused("58 one place too few, of none", x -> x.receipts(0, 0, 5, 2), 3);
        LetMe x = laid();
        x.tray(2, 3, 4);
        CHECK.given(x, "58 just enough", x.receipts(0, 1, 5, 2), 4);
        row(x, "58 just enough", 2, 10, -5, -5, 0);
        x.tray(3, 3, 0);
        CHECK.refused(x, "58 to a row of none", x.receipts(0, 0, 5, 3), 3);
    }

    /** "5: who paid is no person." */
    private static void whoPaidIsNoPerson() {
        for (int sort = 0; sort < 4; sort++) {
            long[] wrongs = {-1, 4, 5, 127, -128, sort == 3 ? 1L << 32 : 4, sort == 3 ? Long.MIN_VALUE : -1, sort > 1 ? LEAST : 4};
            for (long wrong : wrongs) {
                for (int place = 0; place < 3; place++) {
                    int each = sort;
                    int here = place;
                    Supplier<LetMe> made = () -> {
                        LetMe x = laid();
                        x.tray(0, each, 4);
                        x.write(0, here, wrong);
                        return x;
                    };
                    LetMe x = made.get();
                    CHECK.refused(x, "58 " + wrong + " at " + place, x.receipts(0, 3, 5, 1), 5);
                    row(x, "58 nothing came", 1, 1_000, 1_001, 1_002, 1_003, 1_004);
                    if (sort == 0) {
                        new Still(CHECK, made).refused("58 " + wrong + " at " + place, y -> y.receipts(0, 3, 5, 1), 5);
                    }
                    CHECK.given(x, "58 behind the dinners it is free", x.receipts(0, place, 5, 1), 4);
                }
            }
        }
    }

    /** "1, 2, 3, 5: asked in this order." */
    private static void askedInThisOrder() {
        Still still = new Still(CHECK, () -> {
            LetMe x = laid();
            x.write(0, 0, 9);
            return x;
        });
        still.refused("58 1 ahead of 2", x -> x.receipts(3, -1, 5, 1), 1);
        still.refused("58 1 ahead of 2", x -> x.receipts(3, 0, 0, 1), 1);
        still.refused("58 1 ahead of 2", x -> x.receipts(4, 0, 5, 3), 1);
        still.refused("58 1 ahead of 3", x -> x.receipts(0, 9, 1_000, 1), 1);
        still.refused("58 1 ahead of 5", x -> x.receipts(0, 1, 0, 1), 1);
        still.refused("58 2 ahead of 3", x -> x.receipts(3, 99, 5, 1), 2);
        still.refused("58 2 ahead of 3, 5", x -> x.receipts(0, 99, 5, 3), 2);
        still.refused("58 2 ahead of 5", x -> x.receipts(0, 1, 5, 3), 2);
        still.refused("58 3 ahead of 5", x -> x.receipts(0, 5, 5, 1), 3);
        still.refused("58 3 ahead of 5", x -> x.receipts(0, 1, 5, 2), 3);
        still.refused("58 5", x -> x.receipts(0, 1, 5, 1), 5);
    }

    /** "What the BALANCE of each would be by these alone." */
    private static void balancesOfReceipts() {
        LetMe x = laid();
        String before = Still.table(x);
        CHECK.given(x, "58 three", x.receipts(0, 3, 7, 1), 4);
        row(x, "58 three", 1, 28 - 7, -21, 14 - 14, 0, 1_004);
        row(x, "58 who paid stays", 0, 0, 2, 0, 3);
        CHECK.due("58 the TABLE stays", Still.table(x).equals(before), true);
        CHECK.given(x, "40 the debts stay", x.balance(1), 42);
        CHECK.due("58 the tape stays", x.feed(0, 0, 0, 0, 0), 40);
    }

    /** "A GUEST may have paid: each of the HEADS OWES it n." */
    private static void guestsMayHavePaid() {
        LetMe x = laid();
        x.write(0, 0, 3);
        CHECK.given(x, "58 a guest alone", x.receipts(0, 1, 9, 1), 4);
        row(x, "58 a guest alone", 1, -9, -9, -9, 27);
        LetMe all = Check.at("person a guest;person b guest;person c guest;");
        all.tray(0, 0, 1);
        all.write(0, 0, 2);
        all.tray(1, 1, 3);
        CHECK.given(all, "58 all are guests: heads", all.receipts(0, 1, 9, 1), 3);
        row(all, "58 all are guests: heads", 1, -9, -9, 18);
        LetMe one = Check.at("person a;");
        one.tray(0, 0, 2);
        one.tray(1, 0, 1);
        one.write(1, 0, 5);
        CHECK.given(one, "58 alone", one.receipts(0, 2, 9, 1), 1);
        row(one, "58 alone", 1, 0);
    }

    private static void cutToTheSort() {
        long[][] wants = {{(byte) 1_998, (byte) -999, (byte) -999}, {1_998, -999, -999}, {1_998, -999, -999}, {1_998, -999, -999}};
        for (int sort = 0; sort < 4; sort++) {
            LetMe x = laid();
            x.tray(1, sort, 4);
            CHECK.given(x, "58 sort " + sort, x.receipts(0, 1, 999, 1), 4);
            row(x, "58 sort " + sort, 1, wants[sort]);
        }
    }

    private static void sixtyDinners() {
        LetMe x = Check.at("person a;person b;person c;person d;person e;person f;");
        for (int sort = 0; sort < 4; sort++) {
            x.tray(0, sort, 60);
            x.tray(1, 1, 6);
            x.tray(2, 2, 6);
            for (int i = 0; i < 60; i++) {
                x.write(0, i, 5);
            }
            CHECK.given(x, "58 sixty", x.receipts(0, 60, 999, 2), 6);
            row(x, "58 sixty", 2, -59_940, -59_940, -59_940, -59_940, -59_940, 299_700);
            CHECK.given(x, "58 sixty, cut", x.receipts(0, 60, 999, 1), 6);
            row(x, "58 sixty, cut", 1, (short) -59_940, (short) -59_940, (short) -59_940, (short) -59_940, (short) -59_940, (short) 299_700);
            CHECK.refused(x, "58 sixty-one", x.receipts(0, 61, 999, 2), 3);
        }
    }

    private static void toItsOwnTray() {
        LetMe x = laid();
        CHECK.given(x, "58 to its own", x.receipts(0, 4, 5, 0), 4);
        row(x, "58 to its own", 0, 10, -20, -5, 15);
    }

    private static void rememberNoSuchTray() {
        Still still = new Still(CHECK, ReceiptsEdgesTest::laid);
        for (int tray : new int[] {LEAST, -2, -1, 4, 5, MOST}) {
            still.refused("59 tray " + tray, x -> x.remembers(tray), 1);
        }
    }

    private static void rememberMissing() {
        new Still(CHECK, ReceiptsEdgesTest::laid).refused("59 missing", x -> x.remembers(3), 2);
    }

    private static void rememberTooFew() {
        Still still = new Still(CHECK, ReceiptsEdgesTest::laid);
        still.refused("59 one too few", x -> x.remembers(2), 3);
        still.given("59 just enough", x -> x.remembers(0), 1);
        still.given("59 one more", x -> x.remembers(1), 0);
        LetMe x = laid();
        x.tray(2, 0, 0);
        CHECK.refused(x, "59 a row of none", x.remembers(2), 3);
    }

    /** "5: a number below -9,999,999, above 9,999,999." */
    private static void rememberTooMuch() {
        for (int place = 0; place < 4; place++) {
            int here = place;
            for (long edge : new long[] {9_999_999, -9_999_999}) {
                LetMe x = laid();
                CHECK.granted(x, "6 write", x.write(1, place, edge));
                CHECK.given(x, "59 just " + edge, x.remembers(1), place);
            }
            for (long beyond : new long[] {10_000_000, -10_000_000, MOST, LEAST, 1L << 40, Long.MAX_VALUE, Long.MIN_VALUE}) {
                new Still(CHECK, () -> {
                    LetMe x = laid();
                    x.tray(1, 3, 5);
                    x.write(1, here, beyond);
                    return x;
                }).refused("59 beyond " + beyond, x -> x.remembers(1), 5);
            }
        }
        LetMe x = laid();
        x.write(1, 4, MOST);
        CHECK.given(x, "59 behind the PEOPLE it is free", x.remembers(1), 0);
    }

    /** "1, 2, 3, 5, 6: asked in this order." */
    private static void rememberOrder() {
        LetMe x = laid();
        x.write(2, 0, Long.MAX_VALUE);
        CHECK.refused(x, "59 3 ahead of 5", x.remembers(2), 3);
        LetMe nobody = new LetMe();
        CHECK.refused(nobody, "59 1 ahead of 6", nobody.remembers(4), 1);
        CHECK.refused(nobody, "59 2 ahead of 6", nobody.remembers(0), 2);
        nobody.tray(0, 3, 1);
        nobody.write(0, 0, Long.MAX_VALUE);
        CHECK.refused(nobody, "59 nobody is off", nobody.remembers(0), 6);
        nobody.tray(0, 3, 0);
        CHECK.refused(nobody, "59 nobody is off", nobody.remembers(0), 6);
    }

    private static LetMe right() {
        LetMe x = laid();
        long[] says = {-30, 42, -12, 0, 555};
        for (int i = 0; i < 5; i++) {
            x.write(1, i, says[i]);
        }
        return x;
    }

    /** "6: nobody is off." */
    private static void nobodyIsOff() {
        Still still = new Still(CHECK, ReceiptsEdgesTest::right);
        still.refused("59 nobody is off", x -> x.remembers(1), 6);
        for (int person = 0; person < 4; person++) {
            for (int by = -1; by <= 1; by += 2) {
                LetMe x = right();
                x.write(1, person, x.read(1, person) + by);
                CHECK.given(x, "59 off by " + by, x.remembers(1), person);
            }
        }
    }

    private static void offByTheMost() {
        LetMe x = right();
        x.write(1, 0, -29);
        x.write(1, 3, -2);
        CHECK.given(x, "59 2 ahead of 1", x.remembers(1), 3);
        x.write(1, 1, 45);
        CHECK.given(x, "59 3 ahead of 2", x.remembers(1), 1);
        x.lend(1, 0, 3);
        CHECK.given(x, "59 by what its BALANCE is now", x.remembers(1), 0);
        LetMe far = laid();
        PayersEdgesTest.lend(far, 0, 3, 999_999);
        far.write(1, 0, -9_999_999);
        far.write(1, 3, 9_999_999);
        far.write(1, 1, 9_999_999);
        CHECK.given(far, "59 further off", far.remembers(1), 3);
    }

    /** "Of several the first." */
    private static void offOfSeveral() {
        LetMe x = right();
        x.write(1, 1, 47);
        x.write(1, 2, -17);
        x.write(1, 3, 5);
        CHECK.given(x, "59 the first of three", x.remembers(1), 1);
        x.write(1, 0, -25);
        CHECK.given(x, "59 the first of four", x.remembers(1), 0);
    }
}
