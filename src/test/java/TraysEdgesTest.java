import java.util.function.Supplier;

/** The bounds that the document names for promises 1 to 8. */
public final class TraysEdgesTest {
    private static final Check CHECK = new Check("TraysEdgesTest");
    private static final int LEAST = Integer.MIN_VALUE;
    private static final int MOST = Integer.MAX_VALUE;

    public static void main(String[] args) {
        aNewObjectIsEmpty();
        fiveCallsHaveNoStatus();
        aRefusalLeavesTheFraction();
        zeroIsZeroByOne();
        traysZeroToThree();
        sortsZeroToThree();
        zeroToSixtyNumbers();
        soManyZeros();
        writeCutsEightBits();
        writeCutsSixteenBits();
        writeCutsThirtyTwoBits();
        writeCutsNothingOfSixtyFour();
        placesToWrite();
        placesToRead();
        statusTellsNoneFromMinusOne();
        missingToWriteAndRead();
        pourBelowZero();
        pourMissing();
        pourUnlike();
        pourTooFew();
        pourOrder();
        pourAll();
        pourItsOwn();
        CHECK.finish();
    }

    /** Promise 1. */
    private static void aNewObjectIsEmpty() {
        Supplier<LetMe> made = LetMe::new;
        Still still = new Still(CHECK, made);
        still.refused("1 nobody", x -> x.person(0, 0), 1);
        still.refused("1 no dish", x -> x.dish(0, 0), 1);
        still.refused("1 no year", x -> x.live(0), 6);
        still.refused("1 none lived", x -> x.lived(0), 6);
        still.refused("1 no marks", LetMe::back, 6);
        still.given("1 split heads", x -> x.told(3), 0);
        still.given("1 law turn", x -> x.told(4), 0);
        for (int tray = 0; tray < 4; tray++) {
            int each = tray;
            still.refused("1 missing " + tray, x -> x.read(each, 0), 2);
            still.denied("1 missing " + tray, x -> x.write(each, 0, 1), 2);
            still.denied("1 missing " + tray, x -> x.pour(each, 0, each, 0, 0), 2);
        }
        CHECK.due("1 an empty tape", new LetMe().feed(0, 0, 0, 0, 0), 20);
        still.refused("1 an empty tape", x -> x.table(1), 1);
        still.refused("1 an empty tape", x -> x.year(1), 1);
        LetMe x = new LetMe();
        CHECK.due("1 top", x.top(), 0);
        CHECK.due("1 bottom", x.bottom(), 1);
        CHECK.due("1 status", x.status(), 0);
        CHECK.due("12 ahead of any", x.fault(0), LetMe.NONE);
        CHECK.due("12 ahead of any", x.fault(1), LetMe.NONE);
    }

    /** "status(), top(), bottom(), feed(), fault() have none." */
    private static void fiveCallsHaveNoStatus() {
        for (int status = 0; status <= 9; status++) {
            LetMe x = Still.rich();
            bring(x, status);
            CHECK.due("2 brought " + status, x.status(), status);
            CHECK.due("2 told again " + status, x.status(), status);
            x.top();
            CHECK.due("2 top has none " + status, x.status(), status);
            x.bottom();
            CHECK.due("2 bottom has none " + status, x.status(), status);
            x.fault(0);
            x.fault(1);
            x.fault(2);
            CHECK.due("2 fault has none " + status, x.status(), status);
            for (int i = 0; i < 46; i++) {
                x.feed(0, 0, 0, 0, 0);
            }
            CHECK.due("2 feed has none, full " + status, x.status(), status);
        }
    }

    private static void bring(LetMe x, int status) {
        switch (status) {
            case 0 -> x.told(0);
            case 1 -> x.told(-1);
            case 2 -> x.read(3, 0);
            case 3 -> x.read(0, 3);
            case 4 -> {
                x.mark();
                x.mark();
            }
            case 5 -> x.receipts(0, 1, 5, 1);
            case 6 -> x.person(2, 4);
            case 7 -> x.comes(0, 1);
            case 8 -> x.pour(0, 0, 1, 0, 1);
            default -> Check.table(x, "!");
        }
    }

    /** "With another STATUS than 0 a call gives NONE, or false, and changes nothing else." */
    private static void aRefusalLeavesTheFraction() {
        LetMe x = Check.at("person a insists 3;person b insists 5;person c insists 16;person d insists 16 quick 0;", "round;");
        CHECK.fraction(x, "3 duel", x.duel(0, 1), 33, 241);
        x.duel(0, 0);
        x.duel(2, 3);
        x.goes(0, 0);
        x.goes(3, 2);
        x.trio(0, 1, 1, 0);
        x.trio(0, 2, 3, 0);
        x.reach(0, 0);
        x.reach(8, 3);
        x.mean(0, 0, 0);
        CHECK.due("3 top stays", x.top(), 33);
        CHECK.due("4 bottom stays", x.bottom(), 241);
        CHECK.fraction(x, "3 goes", x.goes(0, 1), 304, 241);
        CHECK.fraction(x, "3 mean", x.mean(0, 0, 1), 0, 1);
        CHECK.fraction(x, "3 reach", x.reach(15, 0), 1, 3);
    }

    /** "FRACTIONS are told without a common divisor, the bottom above 0; 0 is 0 by 1." */
    private static void zeroIsZeroByOne() {
        LetMe x = Check.at("person a;person b insists 8;person c insists 16;person d quick 0;person e quick 20;", "dinner by a;");
        CHECK.fraction(x, "31 a half", x.duel(1, 0), 1, 2);
        CHECK.fraction(x, "31 0 by 1", x.duel(0, 1), 0, 1);
        CHECK.fraction(x, "31 1 by 1", x.duel(2, 0), 1, 1);
        CHECK.fraction(x, "33 0 by 1", x.trio(2, 0, 1, 1), 0, 1);
        CHECK.fraction(x, "34 without a common divisor", x.reach(19, 4), 10, 11);
        CHECK.fraction(x, "34 0 by 1", x.reach(24, 3), 0, 1);
        CHECK.fraction(x, "62 without a common divisor", x.mean(0, 0, 20), 1, 1);
        CHECK.fraction(x, "62 0 by 1", x.mean(1, 0, 20), 0, 1);
        x.pay(0);
        x.pay(0);
        Check.year(x, "dinner;");
        x.mark();
        int paid = 0;
        for (int seed = 0; seed < 4; seed++) {
            x.live(seed);
            paid += x.person(4, 5);
            x.back();
            x.mark();
        }
        CHECK.due("62 some pay", paid > 0, true);
        CHECK.granted(x, "62 by four", x.mean(4, 0, 4));
        CHECK.due("62 by four", x.top() * 4, paid * x.bottom());
        CHECK.due("62 by four, without a common divisor", x.bottom(), paid % 4 == 0 ? 1 : paid % 2 == 0 ? 2 : 4);
    }

    /** "TRAYS 0 to 3." */
    private static void traysZeroToThree() {
        Still still = new Still(CHECK, Still::rich);
        for (int tray : new int[] {LEAST, -2, -1, 4, 5, MOST}) {
            still.denied("5 no such tray " + tray, x -> x.tray(tray, 0, 1), 1);
            still.denied("6 no such tray " + tray, x -> x.write(tray, 0, 1), 1);
            still.refused("7 no such tray " + tray, x -> x.read(tray, 0), 1);
            still.denied("8 no such tray " + tray, x -> x.pour(tray, 0, 0, 0, 0), 1);
            still.denied("8 no such tray " + tray, x -> x.pour(0, 0, tray, 0, 0), 1);
        }
        for (int tray = 0; tray < 4; tray++) {
            LetMe x = Still.rich();
            CHECK.granted(x, "5 tray " + tray, x.tray(tray, 2, 2));
            CHECK.granted(x, "6 tray " + tray, x.write(tray, 1, 70_000 + tray));
            CHECK.given(x, "7 tray " + tray, x.read(tray, 1), 70_000 + tray);
            CHECK.granted(x, "8 tray " + tray, x.pour(tray, 1, tray, 0, 1));
            CHECK.given(x, "8 tray " + tray, x.read(tray, 0), 70_000 + tray);
        }
    }

    /** "Numbers of 8 bits (sort 0), 16 (1), 32 (2) or 64 (3)." */
    private static void sortsZeroToThree() {
        Still still = new Still(CHECK, Still::rich);
        for (int sort : new int[] {LEAST, -2, -1, 4, 5, 8, MOST}) {
            still.denied("5 sort " + sort, x -> x.tray(0, sort, 3), 1);
            still.denied("5 sort " + sort, x -> x.tray(3, sort, 3), 1);
        }
        long[] cuts = {-9, -2_057, 0xF7F7F7F7, 0x77777777F7F7F7F7L};
        for (int sort = 0; sort < 4; sort++) {
            LetMe x = Still.rich();
            CHECK.granted(x, "5 sort " + sort, x.tray(1, sort, 1));
            x.write(1, 0, 0x77777777F7F7F7F7L);
            CHECK.given(x, "6 sort " + sort, x.read(1, 0), cuts[sort]);
        }
    }

    /** "Rows of 0 to 60 numbers." */
    private static void zeroToSixtyNumbers() {
        Still still = new Still(CHECK, Still::rich);
        for (int many : new int[] {LEAST, -2, -1, 61, 62, MOST}) {
            still.denied("5 many " + many, x -> x.tray(0, 3, many), 1);
            still.denied("5 many " + many, x -> x.tray(3, 3, many), 1);
        }
        for (int sort = 0; sort < 4; sort++) {
            LetMe x = new LetMe();
            for (int many : new int[] {0, 1, 2, 59, 60}) {
                CHECK.granted(x, "5 many " + many, x.tray(sort, sort, many));
                CHECK.refused(x, "5 no place " + many, x.read(sort, many), 3);
                if (many > 0) {
                    CHECK.given(x, "5 the last place of " + many, x.read(sort, many - 1), 0);
                }
            }
        }
    }

    /** "A TRAY is a row of so many 0s": what it was, and the others. */
    private static void soManyZeros() {
        LetMe x = new LetMe();
        for (int tray = 0; tray < 4; tray++) {
            x.tray(tray, 3, 8);
            for (int place = 0; place < 8; place++) {
                x.write(tray, place, 100 * tray + place + 1);
            }
        }
        int[] many = {8, 4, 12, 0};
        for (int tray = 0; tray < 4; tray++) {
            CHECK.granted(x, "5 laid again " + tray, x.tray(tray, 2, many[tray]));
            for (int other = 0; other < 4; other++) {
                int size = other <= tray ? many[other] : 8;
                for (int place = 0; place < size; place++) {
                    long want = other <= tray ? 0 : 100 * other + place + 1;
                    CHECK.due("5 laid again " + tray + " read " + other + " at " + place, x.read(other, place), want);
                }
                CHECK.refused(x, "5 no more of " + other, x.read(other, size), 3);
            }
        }
        x.tray(3, 3, 8);
        for (int place = 0; place < 8; place++) {
            CHECK.given(x, "5 0 behind a row of none", x.read(3, place), 0);
        }
    }

    private static void cut(int sort, long... pairs) {
        LetMe x = new LetMe();
        x.tray(2, sort, 3);
        for (int i = 0; i < pairs.length; i += 2) {
            CHECK.granted(x, "6 sort " + sort + " write " + pairs[i], x.write(2, 1, pairs[i]));
            CHECK.given(x, "6 sort " + sort + " wrote " + pairs[i], x.read(2, 1), pairs[i + 1]);
        }
        CHECK.given(x, "6 the place ahead", x.read(2, 0), 0);
        CHECK.given(x, "6 the place behind", x.read(2, 2), 0);
    }

    /** "Cut to its sort": 8 bits. */
    private static void writeCutsEightBits() {
        cut(0, 0, 0, 126, 126, 127, 127, 128, -128, 129, -127, 255, -1, 256, 0, 257, 1, -1, -1, -127, -127, -128, -128, -129, 127,
            -255, 1, -256, 0, -257, -1, 383, 127, 384, -128, LEAST, 0, MOST, -1, Long.MIN_VALUE, 0, Long.MAX_VALUE, -1, 1L << 32, 0);
    }

    private static void writeCutsSixteenBits() {
        cut(1, 127, 127, 128, 128, 255, 255, 256, 256, -129, -129, 32_767, 32_767, 32_768, -32_768, 32_769, -32_767, 65_535, -1,
            65_536, 0, 65_537, 1, -32_768, -32_768, -32_769, 32_767, -65_535, 1, -65_536, 0, -65_537, -1, LEAST, 0, MOST, -1,
            Long.MIN_VALUE, 0, Long.MAX_VALUE, -1, 1L << 32, 0);
    }

    private static void writeCutsThirtyTwoBits() {
        cut(2, 32_768, 32_768, -32_769, -32_769, 65_536, 65_536, MOST, MOST, MOST + 1L, LEAST, MOST + 2L, LEAST + 1, LEAST, LEAST,
            LEAST - 1L, MOST, (1L << 32) - 1, -1, 1L << 32, 0, (1L << 32) + 1, 1, -(1L << 32), 0, -(1L << 32) - 1, -1,
            Long.MIN_VALUE, 0, Long.MAX_VALUE, -1);
    }

    private static void writeCutsNothingOfSixtyFour() {
        cut(3, MOST + 1L, MOST + 1L, LEAST - 1L, LEAST - 1L, 1L << 32, 1L << 32, Long.MAX_VALUE, Long.MAX_VALUE, Long.MIN_VALUE,
            Long.MIN_VALUE, -1, -1, 0, 0);
    }

    /** "3 a place that the TRAY has not." */
    private static void placesToWrite() {
        Still still = new Still(CHECK, Still::rich);
        for (int place : new int[] {LEAST, -2, -1, 3, 4, 59, 60, 61, MOST}) {
            still.denied("6 place " + place, x -> x.write(0, place, 9), 3);
        }
        for (int place : new int[] {LEAST, -1, 0, 1, 60, MOST}) {
            still.denied("6 a row of none, place " + place, x -> x.write(2, place, 9), 3);
        }
        LetMe x = Still.rich();
        CHECK.granted(x, "6 the first place", x.write(0, 0, 9));
        CHECK.granted(x, "6 the last place", x.write(0, 2, 8));
        CHECK.given(x, "6 the first place", x.read(0, 0), 9);
        CHECK.given(x, "6 between", x.read(0, 1), 0);
        CHECK.given(x, "6 the last place", x.read(0, 2), 8);
        CHECK.given(x, "6 the TRAY behind", x.read(1, 0), -7);
        x.tray(3, 1, 60);
        CHECK.granted(x, "6 the 60th", x.write(3, 59, 5));
        CHECK.denied(x, "6 the 61st", x.write(3, 60, 5), 3);
        CHECK.given(x, "6 the 60th", x.read(3, 59), 5);
        CHECK.given(x, "6 the 59th", x.read(3, 58), 0);
    }

    private static void placesToRead() {
        Still still = new Still(CHECK, Still::rich);
        for (int place : new int[] {LEAST, -2, -1, 3, 4, 59, 60, 61, MOST}) {
            still.refused("7 place " + place, x -> x.read(0, place), 3);
        }
        for (int place : new int[] {LEAST, -1, 0, 1, 60, MOST}) {
            still.refused("7 a row of none, place " + place, x -> x.read(2, place), 3);
        }
        still.given("7 the first place", x -> x.read(0, 0), -128);
        still.given("7 the last place", x -> x.read(0, 2), 127);
    }

    /** "STATUS tells NONE from -1." */
    private static void statusTellsNoneFromMinusOne() {
        for (int sort = 0; sort < 4; sort++) {
            LetMe x = new LetMe();
            x.tray(0, sort, 1);
            x.write(0, 0, -1);
            x.told(-1);
            CHECK.due("7 -1", x.read(0, 0), -1);
            CHECK.due("7 told", x.status(), 0);
            CHECK.refused(x, "7 NONE", x.read(0, 1), 3);
        }
    }

    /** "2 the TRAY is MISSING", behind 1 and ahead of 3. */
    private static void missingToWriteAndRead() {
        Still still = new Still(CHECK, Still::rich);
        for (int place : new int[] {LEAST, -1, 0, 60, MOST}) {
            still.denied("6 missing, place " + place, x -> x.write(3, place, 1), 2);
            still.refused("7 missing, place " + place, x -> x.read(3, place), 2);
            still.denied("6 no such tray, place " + place, x -> x.write(4, place, 1), 1);
            still.refused("7 no such tray, place " + place, x -> x.read(-1, place), 1);
        }
    }

    /** Two rows of 32 bits, one of 16, one that is MISSING. */
    private static LetMe rows() {
        LetMe x = Still.rich();
        x.tray(0, 2, 5);
        x.tray(1, 2, 3);
        x.tray(2, 1, 5);
        for (int i = 0; i < 5; i++) {
            x.write(0, i, 1_000_000 + i);
            x.write(1, i, -i - 1);
            x.write(2, i, 70 + i);
        }
        return x;
    }

    /** "1: below 0, too." */
    private static void pourBelowZero() {
        Still still = new Still(CHECK, TraysEdgesTest::rows);
        for (int low : new int[] {LEAST, -2, -1}) {
            still.denied("8 place " + low, x -> x.pour(0, low, 1, 0, 1), 1);
            still.denied("8 at " + low, x -> x.pour(0, 0, 1, low, 1), 1);
            still.denied("8 many " + low, x -> x.pour(0, 0, 1, 0, low), 1);
            still.denied("8 many " + low + " from far", x -> x.pour(0, 5, 1, 3, low), 1);
        }
    }

    private static void pourMissing() {
        Still still = new Still(CHECK, TraysEdgesTest::rows);
        still.denied("8 from missing", x -> x.pour(3, 0, 0, 0, 0), 2);
        still.denied("8 to missing", x -> x.pour(0, 0, 3, 0, 0), 2);
        still.denied("8 both missing", x -> x.pour(3, 0, 3, 0, 0), 2);
    }

    private static void pourUnlike() {
        Still still = new Still(CHECK, TraysEdgesTest::rows);
        still.denied("8 unlike", x -> x.pour(0, 0, 2, 0, 1), 8);
        still.denied("8 unlike", x -> x.pour(2, 0, 1, 0, 1), 8);
        still.denied("8 unlike, of none", x -> x.pour(2, 0, 1, 0, 0), 8);
        for (int sort = 0; sort < 4; sort++) {
            for (int other = 0; other < 4; other++) {
                LetMe x = new LetMe();
                x.tray(0, sort, 1);
                x.tray(1, other, 1);
                x.write(0, 0, 1);
                if (sort == other) {
                    CHECK.granted(x, "8 alike " + sort, x.pour(0, 0, 1, 0, 1));
                } else {
                    CHECK.denied(x, "8 unlike " + sort + " " + other, x.pour(0, 0, 1, 0, 1), 8);
                }
                CHECK.given(x, "8 came " + sort + " " + other, x.read(1, 0), sort == other ? 1 : 0);
            }
        }
    }

    private static void pourTooFew() {
        Still still = new Still(CHECK, TraysEdgesTest::rows);
        still.denied("8 one more than there are", x -> x.pour(0, 3, 1, 0, 3), 3);
        still.denied("8 one more than all", x -> x.pour(0, 0, 0, 0, 6), 3);
        still.denied("8 one more than there is room for", x -> x.pour(0, 0, 1, 1, 3), 3);
        still.denied("8 one more than all the room", x -> x.pour(0, 0, 1, 0, 4), 3);
        still.denied("8 a place too far", x -> x.pour(0, 5, 1, 0, 1), 3);
        still.denied("8 a room too far", x -> x.pour(0, 0, 1, 3, 1), 3);
        still.denied("8 none from behind the end", x -> x.pour(0, 6, 1, 0, 0), 3);
        still.denied("8 none to behind the end", x -> x.pour(0, 0, 1, 4, 0), 3);
        for (int far : new int[] {MOST - 1, MOST}) {
            still.denied("8 place " + far, x -> x.pour(0, far, 1, 0, 1), 3);
            still.denied("8 at " + far, x -> x.pour(0, 0, 1, far, 1), 3);
            still.denied("8 many " + far, x -> x.pour(0, 0, 1, 0, far), 3);
            still.denied("8 wraps round " + far, x -> x.pour(0, 2, 1, 2, far), 3);
            still.denied("8 wraps round " + far, x -> x.pour(0, far, 1, far, far), 3);
        }
    }

    /** "Asked in this order": 1, 2, 8, 3. */
    private static void pourOrder() {
        Still still = new Still(CHECK, TraysEdgesTest::rows);
        still.denied("8 1 ahead of 2", x -> x.pour(3, -1, 0, 0, 0), 1);
        still.denied("8 1 ahead of 2", x -> x.pour(3, 0, 4, 0, 0), 1);
        still.denied("8 1 ahead of 8", x -> x.pour(0, 0, 2, -1, 0), 1);
        still.denied("8 1 ahead of 3", x -> x.pour(0, 9, 1, 9, -1), 1);
        still.denied("8 2 ahead of 8, 3", x -> x.pour(3, 99, 0, 99, 99), 2);
        still.denied("8 2 ahead of 8, 3", x -> x.pour(2, 99, 3, 99, 99), 2);
        still.denied("8 8 ahead of 3", x -> x.pour(0, 99, 2, 99, 99), 8);
        still.denied("8 8 ahead of 3", x -> x.pour(0, 0, 2, 0, 6), 8);
    }

    private static void row(LetMe x, String call, int tray, long... wants) {
        for (int i = 0; i < wants.length; i++) {
            CHECK.given(x, call + " at " + i, x.read(tray, i), wants[i]);
        }
        CHECK.refused(x, call + " has no more", x.read(tray, wants.length), 3);
    }

    /** "As they were", the last ones that there are, and no others. */
    private static void pourAll() {
        LetMe x = rows();
        CHECK.granted(x, "8 none", x.pour(0, 5, 1, 3, 0));
        row(x, "8 none", 1, -1, -2, -3);
        CHECK.granted(x, "8 the last one to the last place", x.pour(0, 4, 1, 2, 1));
        row(x, "8 the last one to the last place", 1, -1, -2, 1_000_004);
        CHECK.granted(x, "8 just the room", x.pour(0, 2, 1, 0, 3));
        row(x, "8 just the room", 1, 1_000_002, 1_000_003, 1_000_004);
        row(x, "8 from stays", 0, 1_000_000, 1_000_001, 1_000_002, 1_000_003, 1_000_004);
        row(x, "8 the others stay", 2, 70, 71, 72, 73, 74);
        long[] edges = {Long.MIN_VALUE, Long.MAX_VALUE, -1, 0};
        for (int sort = 0; sort < 4; sort++) {
            LetMe y = new LetMe();
            y.tray(3, sort, 60);
            y.tray(0, sort, 60);
            for (int i = 0; i < 60; i++) {
                y.write(3, i, edges[i % 4] - i);
            }
            CHECK.granted(y, "8 all sixty", y.pour(3, 0, 0, 0, 60));
            for (int i = 0; i < 60; i++) {
                CHECK.due("8 as it was " + i, y.read(0, i), y.read(3, i));
            }
            CHECK.denied(y, "8 sixty-one", y.pour(3, 0, 0, 0, 61), 3);
        }
    }

    /** "Or its own": as they were ahead of it, too, where both places overlap. */
    private static void pourItsOwn() {
        LetMe up = rows();
        CHECK.granted(up, "8 up by one", up.pour(2, 0, 2, 1, 4));
        row(up, "8 up by one", 2, 70, 70, 71, 72, 73);
        LetMe down = rows();
        CHECK.granted(down, "8 down by one", down.pour(2, 1, 2, 0, 4));
        row(down, "8 down by one", 2, 71, 72, 73, 74, 74);
        LetMe same = rows();
        CHECK.granted(same, "8 onto itself", same.pour(2, 0, 2, 0, 5));
        row(same, "8 onto itself", 2, 70, 71, 72, 73, 74);
        LetMe apart = rows();
        CHECK.granted(apart, "8 apart", apart.pour(2, 0, 2, 3, 2));
        row(apart, "8 apart", 2, 70, 71, 72, 70, 71);
        Still still = new Still(CHECK, TraysEdgesTest::rows);
        still.denied("8 its own, too few", x -> x.pour(2, 0, 2, 1, 5), 3);
        still.denied("8 its own, too few", x -> x.pour(2, 1, 2, 0, 5), 3);
    }
}
