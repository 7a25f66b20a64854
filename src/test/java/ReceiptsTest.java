/** Promises 58 and 59: receipts. */
public final class ReceiptsTest {
    private static final Check CHECK = new Check("ReceiptsTest");

    public static void main(String[] args) {
        receipts();
        refusals();
        remembers();
        rememberRefusals();
        CHECK.finish();
    }

    private static LetMe laid(String table, int sort, int... paid) {
        LetMe x = Check.at(table);
        x.tray(0, 0, paid.length);
        for (int i = 0; i < paid.length; i++) {
            x.write(0, i, paid[i]);
        }
        x.tray(1, sort, 7);
        for (int i = 0; i < 7; i++) {
            x.write(1, i, 77);
        }
        return x;
    }

    private static void row(LetMe x, String call, int tray, long... wants) {
        for (int i = 0; i < wants.length; i++) {
            CHECK.given(x, call + " at " + i, x.read(tray, i), wants[i]);
        }
    }

    private static void receipts() {
        LetMe x = laid("person a;person b;person g guest;person c;owes a b 50;", 3, 0, 0, 3, 2, 9);
        CHECK.given(x, "58 of three", x.receipts(0, 3, 10, 1), 4);
        row(x, "58 of three", 1, 30, -30, 0, 0, 77, 77, 77);
        CHECK.given(x, "58 a guest paid, too", x.receipts(0, 4, 999, 1), 4);
        row(x, "58 a guest paid, too", 1, 2 * 999, -4 * 999, 3 * 999, -999, 77);
        CHECK.given(x, "58 of none", x.receipts(0, 0, 1, 1), 4);
        row(x, "58 of none", 1, 0, 0, 0, 0, 77);
        CHECK.given(x, "58 changes no owes", x.balance(1), 50);
        LetMe bytes = laid("person a;person b;", 0, 0);
        CHECK.given(bytes, "58 cut to 8 bits", bytes.receipts(0, 1, 200, 1), 2);
        row(bytes, "58 cut to 8 bits", 1, (byte) 200, (byte) -200, 77);
        LetMe guests = laid("person a guest;person b guest;", 2, 1);
        CHECK.given(guests, "58 all are guests", guests.receipts(0, 1, 5, 1), 2);
        row(guests, "58 all are guests", 1, -5, 5);
        x.tray(2, 1, 4);
        CHECK.given(x, "58 just as many places", x.receipts(0, 3, 10, 2), 4);
        row(x, "58 just as many places", 2, 30, -30, 0, 0);
        LetMe own = laid("person a;person b;", 2, 1, 1, 0);
        CHECK.given(own, "58 to its own", own.receipts(0, 3, 5, 0), 2);
        row(own, "58 to its own", 0, -5, 5, 0);
    }

    private static void refusals() {
        LetMe x = laid("person a;person b;", 2, 1, 2);
        CHECK.refused(x, "58 no such tray", x.receipts(-1, 1, 5, 1), 1);
        CHECK.refused(x, "58 no such tray", x.receipts(0, 1, 5, 4), 1);
        CHECK.refused(x, "58 n 0", x.receipts(0, 1, 0, 1), 1);
        CHECK.refused(x, "58 n 1000", x.receipts(0, 1, 1000, 1), 1);
        CHECK.refused(x, "58 dinners below 0, ahead of missing", x.receipts(2, -1, 5, 1), 1);
        CHECK.refused(x, "58 missing", x.receipts(2, 99, 5, 1), 2);
        CHECK.refused(x, "58 missing", x.receipts(0, 2, 5, 3), 2);
        CHECK.refused(x, "58 too few dinners", x.receipts(0, 3, 5, 1), 3);
        CHECK.refused(x, "58 too few dinners", x.receipts(0, Integer.MAX_VALUE, 5, 1), 3);
        x.tray(2, 2, 1);
        CHECK.refused(x, "58 too few for the people, ahead of 5", x.receipts(0, 2, 5, 2), 3);
        CHECK.refused(x, "58 no person", x.receipts(0, 2, 5, 1), 5);
        row(x, "58 nothing changed", 1, 77, 77);
        x.write(0, 1, -1);
        CHECK.refused(x, "58 no person", x.receipts(0, 2, 5, 1), 5);
        CHECK.given(x, "58 behind the dinners is free", x.receipts(0, 1, 5, 1), 2);
        x.tray(3, 3, 1);
        x.write(3, 0, 1L << 32);
        CHECK.refused(x, "58 no person, a long", x.receipts(3, 1, 5, 1), 5);
        LetMe nobody = new LetMe();
        CHECK.refused(nobody, "58 no heads, ahead of missing", nobody.receipts(0, 0, 5, 1), 1);
    }

    private static void remembers() {
        LetMe x = Check.at("person a;person b;person c;owes a b 30;owes c b 12;");
        x.tray(1, 2, 4);
        x.write(1, 0, -30);
        x.write(1, 1, 42);
        x.write(1, 2, -12);
        CHECK.refused(x, "59 nobody is off", x.remembers(1), 6);
        x.write(1, 1, 41);
        CHECK.given(x, "59 one is off by 1", x.remembers(1), 1);
        x.write(1, 1, 40);
        CHECK.given(x, "59 one is off", x.remembers(1), 1);
        x.write(1, 2, -15);
        CHECK.given(x, "59 by the most", x.remembers(1), 2);
        x.write(1, 0, -27);
        CHECK.given(x, "59 of several the first", x.remembers(1), 0);
        x.write(1, 2, 9_999_999);
        CHECK.given(x, "59 the greatest number", x.remembers(1), 2);
        x.write(1, 0, -9_999_999);
        CHECK.given(x, "59 the least number", x.remembers(1), 2);
        x.write(1, 3, 10_000_000);
        CHECK.given(x, "59 behind the people is free", x.remembers(1), 2);
        x.write(1, 0, -30);
        x.write(1, 1, 42);
        x.write(1, 2, -12);
        CHECK.refused(x, "59 behind the people nobody is off", x.remembers(1), 6);
    }

    private static void rememberRefusals() {
        LetMe x = Check.at("person a;person b;person c;");
        CHECK.refused(x, "59 no such tray", x.remembers(-1), 1);
        CHECK.refused(x, "59 no such tray", x.remembers(4), 1);
        CHECK.refused(x, "59 missing", x.remembers(0), 2);
        x.tray(0, 3, 2);
        x.write(0, 0, 10_000_000);
        CHECK.refused(x, "59 too few, ahead of 5", x.remembers(0), 3);
        x.tray(0, 3, 3);
        x.write(0, 2, 10_000_000);
        CHECK.refused(x, "59 above", x.remembers(0), 5);
        x.write(0, 2, -10_000_000);
        CHECK.refused(x, "59 below", x.remembers(0), 5);
        x.write(0, 2, Long.MIN_VALUE);
        CHECK.refused(x, "59 far below", x.remembers(0), 5);
        LetMe nobody = new LetMe();
        nobody.tray(0, 0, 0);
        CHECK.refused(nobody, "59 nobody", nobody.remembers(0), 6);
    }
}
