/** Promises 1 to 8: a new object, what was told latest, TRAYS. */
public final class TraysTest {
    private static final Check CHECK = new Check("TraysTest");

    public static void main(String[] args) {
        newObject();
        statusTopBottom();
        laying();
        writingAndReading();
        pouring();
        CHECK.finish();
    }

    private static void newObject() {
        LetMe x = new LetMe();
        CHECK.due("1 status()", x.status(), 0);
        CHECK.due("1 top()", x.top(), 0);
        CHECK.due("1 bottom()", x.bottom(), 1);
        CHECK.due("1 fault(0)", x.fault(0), LetMe.NONE);
        CHECK.due("1 fault(1)", x.fault(1), LetMe.NONE);
        for (int what = 0; what <= 11; what++) {
            CHECK.given(x, "1 told(" + what + ")", x.told(what), 0);
        }
        for (int tray = 0; tray < 4; tray++) {
            CHECK.refused(x, "1 read of a missing tray", x.read(tray, 0), 2);
        }
        CHECK.refused(x, "1 live", x.live(0), 6);
        CHECK.refused(x, "1 lived", x.lived(0), 6);
        CHECK.refused(x, "1 back", x.back(), 6);
        CHECK.refused(x, "1 strike", x.strike(), 6);
        CHECK.refused(x, "1 table of an empty tape", x.table(1), 1);
        CHECK.given(x, "1 table(0)", x.table(0), 0);
    }

    private static void statusTopBottom() {
        LetMe x = Check.at("person a insists 8 quick 3;person b insists 4 quick 6;");
        CHECK.fraction(x, "3 duel", x.duel(0, 1), 3, 7);
        CHECK.denied(x, "2 duel of one", x.duel(0, 0), 1);
        CHECK.due("3 top stays", x.top(), 3);
        CHECK.due("4 bottom stays", x.bottom(), 7);
        CHECK.due("2 status of status()", x.status(), 1);
        x.fault(0);
        x.fault(9);
        x.feed(0, 0, 0, 0, 0);
        CHECK.due("2 fault, feed have none", x.status(), 1);
        x.told(0);
        CHECK.due("2 told has one", x.status(), 0);
        CHECK.fraction(x, "3 reach", x.reach(3, 1), 2, 3);
        x.told(99);
        CHECK.due("2 told(99)", x.status(), 1);
    }

    private static void laying() {
        LetMe x = new LetMe();
        CHECK.denied(x, "5 tray -1", x.tray(-1, 0, 1), 1);
        CHECK.denied(x, "5 tray 4", x.tray(4, 0, 1), 1);
        CHECK.denied(x, "5 sort -1", x.tray(0, -1, 1), 1);
        CHECK.denied(x, "5 sort 4", x.tray(0, 4, 1), 1);
        CHECK.denied(x, "5 many -1", x.tray(0, 0, -1), 1);
        CHECK.denied(x, "5 many 61", x.tray(0, 0, 61), 1);
        CHECK.refused(x, "5 still missing", x.read(0, 0), 2);
        CHECK.granted(x, "5 tray of none", x.tray(0, 3, 0));
        CHECK.refused(x, "5 no place", x.read(0, 0), 3);
        CHECK.granted(x, "5 tray of 60", x.tray(3, 3, 60));
        CHECK.given(x, "5 last place", x.read(3, 59), 0);
        CHECK.refused(x, "5 one behind", x.read(3, 60), 3);
        x.write(3, 59, 7);
        x.write(3, 2, 7);
        x.write(3, 0, 7);
        CHECK.granted(x, "5 laid anew", x.tray(3, 0, 3));
        CHECK.given(x, "5 all 0 again", x.read(3, 2), 0);
        CHECK.given(x, "5 all 0 again", x.read(3, 0), 0);
        CHECK.refused(x, "5 shorter now", x.read(3, 3), 3);
        x.tray(3, 0, 60);
        CHECK.given(x, "5 0 at the end too", x.read(3, 59), 0);
    }

    private static void writingAndReading() {
        LetMe x = new LetMe();
        CHECK.denied(x, "6 no such tray", x.write(-1, 0, 1), 1);
        CHECK.denied(x, "6 no such tray", x.write(4, 0, 1), 1);
        CHECK.denied(x, "6 missing", x.write(0, -5, 1), 2);
        CHECK.refused(x, "7 no such tray", x.read(-1, 0), 1);
        CHECK.refused(x, "7 no such tray", x.read(Integer.MAX_VALUE, 0), 1);
        CHECK.refused(x, "7 missing", x.read(3, 99), 2);
        long[] cuts = {0x10, 0x3210, 0x76543210L, 0x0123456776543210L};
        for (int sort = 0; sort < 4; sort++) {
            x.tray(sort, sort, 5);
            CHECK.granted(x, "6 write", x.write(sort, 4, 0x0123456776543210L));
            CHECK.given(x, "6 cut to sort " + sort, x.read(sort, 4), cuts[sort]);
            CHECK.granted(x, "6 write", x.write(sort, 0, -1));
            CHECK.given(x, "7 -1 with status 0", x.read(sort, 0), -1);
            CHECK.denied(x, "6 place below", x.write(sort, -1, 1), 3);
            CHECK.denied(x, "6 place behind", x.write(sort, 5, 1), 3);
            CHECK.denied(x, "6 place far", x.write(sort, Integer.MIN_VALUE, 1), 3);
            CHECK.refused(x, "7 place below", x.read(sort, -1), 3);
            CHECK.refused(x, "7 place behind", x.read(sort, 5), 3);
            CHECK.refused(x, "7 place far", x.read(sort, Integer.MAX_VALUE), 3);
        }
        x.write(0, 1, 128);
        CHECK.given(x, "6 128 of 8 bits", x.read(0, 1), -128);
        x.write(1, 1, 32768 + 65536);
        CHECK.given(x, "6 32768 of 16 bits", x.read(1, 1), -32768);
        x.write(2, 1, 1L << 31);
        CHECK.given(x, "6 2^31 of 32 bits", x.read(2, 1), Integer.MIN_VALUE);
        x.write(3, 1, Long.MIN_VALUE);
        CHECK.given(x, "6 the least long", x.read(3, 1), Long.MIN_VALUE);
    }

    private static void pouring() {
        LetMe x = new LetMe();
        x.tray(0, 2, 6);
        x.tray(1, 2, 4);
        x.tray(2, 1, 6);
        for (int i = 0; i < 6; i++) {
            x.write(0, i, i + 1);
        }
        CHECK.denied(x, "8 no such tray", x.pour(-1, 0, 1, 0, 1), 1);
        CHECK.denied(x, "8 no such tray", x.pour(0, 0, 4, 0, 1), 1);
        CHECK.denied(x, "8 place below 0 ahead of missing", x.pour(3, -1, 1, 0, 1), 1);
        CHECK.denied(x, "8 at below 0", x.pour(0, 0, 1, -1, 1), 1);
        CHECK.denied(x, "8 many below 0", x.pour(0, 0, 1, 0, -1), 1);
        CHECK.denied(x, "8 missing from", x.pour(3, 0, 1, 0, 1), 2);
        CHECK.denied(x, "8 missing to ahead of few", x.pour(0, 99, 3, 0, 1), 2);
        CHECK.denied(x, "8 unlike ahead of few", x.pour(0, 99, 2, 0, 1), 8);
        CHECK.denied(x, "8 too few from", x.pour(0, 4, 1, 0, 3), 3);
        CHECK.denied(x, "8 too few to", x.pour(0, 0, 1, 2, 3), 3);
        CHECK.denied(x, "8 too few, huge", x.pour(0, 1, 1, 1, Integer.MAX_VALUE), 3);
        CHECK.denied(x, "8 place huge", x.pour(0, Integer.MAX_VALUE, 1, 0, 1), 3);
        CHECK.denied(x, "8 place behind, none", x.pour(0, 7, 1, 0, 0), 3);
        CHECK.granted(x, "8 none at the end", x.pour(0, 6, 1, 4, 0));
        row(x, "8 nothing changed", 1, 0, 0, 0, 0);
        CHECK.granted(x, "8 poured", x.pour(0, 2, 1, 1, 3));
        row(x, "8 poured", 1, 0, 3, 4, 5);
        row(x, "8 the first stays", 0, 1, 2, 3, 4, 5, 6);
        CHECK.granted(x, "8 own, upward", x.pour(0, 0, 0, 2, 4));
        row(x, "8 own, upward", 0, 1, 2, 1, 2, 3, 4);
        CHECK.granted(x, "8 own, downward", x.pour(0, 1, 0, 0, 5));
        row(x, "8 own, downward", 0, 2, 1, 2, 3, 4, 4);
    }

    private static void row(LetMe x, String call, int tray, long... wants) {
        for (int i = 0; i < wants.length; i++) {
            CHECK.given(x, call + " at " + i, x.read(tray, i), wants[i]);
        }
    }
}
