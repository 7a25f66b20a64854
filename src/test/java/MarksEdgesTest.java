/** The bounds that the document names for promises 63 and 64: MARKS. */
public final class MarksEdgesTest {
    private static final Check CHECK = new Check("MarksEdgesTest");

    public static void main(String[] args) {
        threeMarks();
        noneLeft();
        theLatestIsTakenBack();
        eachIsKept();
        everythingIsKept();
        whatIsNotKept();
        aMarkTellsNothingElse();
        CHECK.finish();
    }

    private static LetMe three() {
        LetMe x = Still.richAndFed();
        CHECK.given(x, "63 the third", x.mark(), 3);
        x.pay(0);
        return x;
    }

    /** "MARKS, at most 3"; "4". */
    private static void threeMarks() {
        LetMe x = new LetMe();
        for (int i = 1; i <= 3; i++) {
            CHECK.given(x, "63 how many", x.mark(), i);
        }
        CHECK.refused(x, "63 a fourth", x.mark(), 4);
        CHECK.given(x, "64 two are left", x.back(), 2);
        CHECK.given(x, "63 a third again", x.mark(), 3);
        CHECK.refused(x, "63 a fourth", x.mark(), 4);
        Still still = new Still(CHECK, MarksEdgesTest::three);
        still.refused("63 a fourth", LetMe::mark, 4);
        LetMe y = three();
        int paid = y.person(0, 5);
        y.mark();
        y.pay(0);
        CHECK.given(y, "64 the third, not the fourth", y.back(), 2);
        CHECK.given(y, "64 the third, not the fourth", y.person(0, 5), paid - 1);
    }

    /** "6". */
    private static void noneLeft() {
        new Still(CHECK, LetMe::new).refused("64 none", LetMe::back, 6);
        Still still = new Still(CHECK, () -> {
            LetMe x = Still.richAndFed();
            x.back();
            x.back();
            x.pay(1);
            return x;
        });
        still.refused("64 none is left", LetMe::back, 6);
        LetMe x = Still.richAndFed();
        CHECK.given(x, "64 one left", x.back(), 1);
        CHECK.given(x, "64 none left", x.back(), 0);
        CHECK.refused(x, "64 no more", x.back(), 6);
        CHECK.given(x, "63 one again", x.mark(), 1);
    }

    /** "The latest MARK, which is gone then." */
    private static void theLatestIsTakenBack() {
        LetMe x = Check.at("person a;person b;");
        x.mark();
        x.pay(0);
        x.mark();
        x.pay(0);
        x.back();
        CHECK.given(x, "64 the second", x.person(0, 5), 1);
        x.pay(0);
        x.pay(0);
        x.mark();
        x.pay(0);
        x.back();
        CHECK.given(x, "64 the new second", x.person(0, 5), 3);
        x.back();
        CHECK.given(x, "64 the first", x.person(0, 5), 0);
        CHECK.refused(x, "64 they are gone", x.back(), 6);
        CHECK.given(x, "64 nothing more is taken back", x.person(0, 5), 0);
    }

    /** A MARK is of its own: what comes later does not come to it, nor does one MARK come to another. */
    private static void eachIsKept() {
        String[] tables = {"person a;dish 5;", "person a insists 3;person b;dish 6;dish 7 by a;owes a b 7;couple a b;split couples;",
            "person x quick 9;person y;person z guest;law quick;"};
        String[] years = {"round;", "dinner;dinner by b;duel a with b;", "loop 9;lend x to y 5;end;"};
        LetMe x = new LetMe();
        String[] pictures = new String[3];
        int[] steps = {1, 3, 10};
        for (int i = 0; i < 3; i++) {
            Check.table(x, tables[i]);
            Check.year(x, years[i]);
            x.pay(0);
            x.round();
            pictures[i] = Still.table(x);
            CHECK.given(x, "63 mark", x.mark(), i + 1);
            x.live(5);
            x.order(9, 0);
            x.comes(0, 0);
        }
        Check.table(x, "person q;");
        for (int i = 2; i >= 0; i--) {
            CHECK.given(x, "64 back", x.back(), i);
            CHECK.due("64 as it was " + i, Still.table(x).equals(pictures[i]), true);
            CHECK.given(x, "64 its YEAR " + i, x.live(5), steps[i]);
            x.order(9, 0);
        }
    }

    private interface Change {
        void make(LetMe x);
    }

    /** "The TABLE with all that became of it, the YEAR": each call that changes them is taken back. */
    private static void everythingIsKept() {
        Change[] all = {x -> x.table(9), x -> x.year(0), x -> x.order(5, 1), LetMe::strike, x -> x.split(0), x -> x.law(0), x -> x.pay(2),
            x -> x.lend(1, 2, 9), x -> x.quits(0, 1), LetMe::simplify, x -> x.comes(3, 1), x -> x.comes(0, 0), LetMe::round,
            x -> x.gift(0, 1, 3), x -> x.live(8), x -> Check.year(x, "stop;")};
        for (int i = 0; i < all.length; i++) {
            Change change = all[i];
            LetMe x = Still.rich();
            Check.feed(x, "person q;");
            String before = Still.table(x);
            x.mark();
            change.make(x);
            CHECK.given(x, "64 back behind change " + i, x.back(), 2);
            CHECK.due("64 as it was behind change " + i, Still.table(x).equals(before), true);
            CHECK.given(x, "64 the YEAR behind change " + i, x.live(1), 6);
        }
        new Still(CHECK, Still::richAndFed).unchanged("64 a MARK and back", x -> {
            x.mark();
            x.order(5, 1);
            x.pay(2);
            x.simplify();
            x.law(0);
            x.split(1);
            x.comes(3, 1);
            x.round();
            x.gift(0, 1, 3);
            x.strike();
            x.lend(0, 3, 5);
            x.quits(0, 3);
            return x.back();
        });
    }

    /** TRAYS, the tape, the FRACTION, the FAULT and what was lived are neither the TABLE nor the YEAR. */
    private static void whatIsNotKept() {
        LetMe x = Check.at("person a insists 8;person b insists 4;dish 10;", "round;dinner by a;");
        x.live(0);
        x.mark();
        x.tray(2, 1, 2);
        x.write(2, 1, 99);
        x.duel(0, 1);
        Check.year(x, "stop");
        Check.year(x, "round;round;round;");
        x.live(0);
        Check.year(x, "loop 0;");
        Check.feed(x, "person z;person y;");
        CHECK.given(x, "64 back", x.back(), 0);
        CHECK.given(x, "64 a TRAY stays", x.read(2, 1), 99);
        CHECK.due("64 the FRACTION stays", x.top(), 3);
        CHECK.due("64 the FRACTION stays", x.bottom(), 7);
        CHECK.due("64 the FAULT stays", x.fault(0), 4);
        CHECK.due("64 its place stays", x.fault(1), 5);
        CHECK.given(x, "64 what was lived stays", x.lived(3), 3);
        CHECK.given(x, "64 the rounds do not", x.told(8), 1);
        CHECK.given(x, "64 the tape stays", x.table(18), 2);
    }

    private static void aMarkTellsNothingElse() {
        LetMe x = Still.richAndFed();
        String before = Still.table(x);
        x.mark();
        CHECK.due("63 the TABLE stays", Still.table(x).equals(before), true);
        CHECK.due("63 the tape stays", x.feed(0, 0, 0, 0, 0), 60);
        CHECK.given(x, "63 TRAYS stay", x.read(0, 0), -128);
    }
}
