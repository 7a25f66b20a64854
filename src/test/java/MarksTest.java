/** Promises 63 and 64: MARKS. */
public final class MarksTest {
    private static final Check CHECK = new Check("MarksTest");

    public static void main(String[] args) {
        counts();
        allIsTakenBack();
        whatIsNot();
        CHECK.finish();
    }

    private static void counts() {
        LetMe x = new LetMe();
        CHECK.refused(x, "64 none", x.back(), 6);
        CHECK.given(x, "63 one", x.mark(), 1);
        CHECK.given(x, "63 two", x.mark(), 2);
        CHECK.given(x, "63 three", x.mark(), 3);
        CHECK.refused(x, "63 one too many", x.mark(), 4);
        CHECK.given(x, "64 two left", x.back(), 2);
        CHECK.given(x, "63 three again", x.mark(), 3);
        CHECK.given(x, "64 two left", x.back(), 2);
        CHECK.given(x, "64 one left", x.back(), 1);
        CHECK.given(x, "64 none left", x.back(), 0);
        CHECK.refused(x, "64 none", x.back(), 6);
    }

    private static void same(LetMe x, String call, String want) {
        String got = Still.table(x);
        CHECK.due("64 " + call + ": " + got + " for " + want, got.equals(want), true);
    }

    private static void allIsTakenBack() {
        LetMe x = Check.at("person a insists 3 quick 4 minds 5 means 6;person b guest;person c;couple a c;dish 30 by a;"
            + "dish 7;split eaten;law owing;owes a b 9;", "loop 2;round;end;dinner by c;");
        String first = Still.table(x);
        x.mark();
        x.pay(0);
        x.order(5, 1);
        x.split(2);
        x.law(3);
        x.comes(1, 0);
        x.round();
        x.gift(1, 0, 3);
        String second = Still.table(x);
        x.mark();
        Check.table(x, "person d;person e;person f;person g;couple d e;dish 1;");
        Check.year(x, "stop;");
        String third = Still.table(x);
        x.mark();
        x.live(3);
        x.strike();
        x.pay(3);
        x.back();
        same(x, "third", third);
        CHECK.given(x, "64 its year", x.live(0), 1);
        x.back();
        same(x, "second", second);
        CHECK.given(x, "64 its names", Check.year(x, "dinner by c;"), 1);
        x.simplify();
        x.back();
        same(x, "first", first);
        CHECK.given(x, "64 its year", x.live(0), 4);
        CHECK.refused(x, "64 none", x.back(), 6);
        LetMe y = Check.at("person a;");
        y.mark();
        Check.year(y, "round;");
        y.back();
        CHECK.refused(y, "64 no year", y.live(0), 6);
    }

    private static void whatIsNot() {
        LetMe x = Check.at("person a quick 3;person b quick 5;", "round;");
        x.mark();
        x.tray(1, 0, 3);
        x.write(1, 2, 9);
        x.reach(3, 1);
        x.live(4);
        Check.year(x, "rond;");
        Check.feed(x, "person x;");
        x.back();
        CHECK.given(x, "64 trays stay", x.read(1, 2), 9);
        CHECK.due("64 the fraction stays", x.top(), 5);
        CHECK.due("64 the fault stays", x.fault(0), 2);
        CHECK.given(x, "64 lived stays", x.lived(3), 1);
        CHECK.given(x, "64 rounds do not", x.told(8), 0);
        CHECK.given(x, "64 the tape stays", x.table(9), 1);
    }
}
