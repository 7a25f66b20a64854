/** What the calls that change something change, and that they change nothing else. */
public final class ChangesTest {
    private static final Check CHECK = new Check("ChangesTest");
    /** The YEAR is looked at as it is lived, so that what is now is in it. */
    private static final String YEAR = "YEAR";

    public static void main(String[] args) {
        trays();
        texts();
        theBill();
        whoPays();
        whoOwesWhom();
        rounds();
        years();
        marks();
        CHECK.finish();
    }

    private static void trays() {
        Still still = new Still(CHECK, Still::richAndFed);
        for (int tray = 0; tray < 4; tray++) {
            int which = tray;
            still.changes("5 tray " + tray, x -> x.tray(which, 3, 7) ? 1 : 0, "TRAY " + tray, "sort of TRAY " + tray);
        }
        still.changes("5 the same sort", x -> x.tray(0, 0, 3) ? 1 : 0, "TRAY 0");
        still.changes("6 write", x -> x.write(1, 2, 9) ? 1 : 0, "TRAY 1");
        still.changes("6 write", x -> x.write(0, 1, 9) ? 1 : 0, "TRAY 0");
        still.changes("8 pour to its own", x -> x.pour(1, 0, 1, 2, 2) ? 1 : 0, "TRAY 1");
        still.changes("8 pour", x -> {
            x.tray(3, 1, 4);
            return x.pour(1, 0, 3, 1, 3) ? 1 : 0;
        }, "TRAY 3", "sort of TRAY 3");
    }

    private static void texts() {
        Still fed = new Still(CHECK, Still::richAndFed);
        fed.changes("9 feed", x -> {
            x.told(0);
            return x.feed(0x20202020, 0, 0, 0, 0);
        }, "tape");
        fed.changes("10 table", x -> x.table(11), "tape", "FAULT", "told", "traits", "paid", "drinks", "owes", "dishes", "names", YEAR);
        fed.changes("10 table of nobody", x -> x.table(0), "tape", "FAULT", "told", "traits", "paid", "drinks", "owes", "dishes", "names", YEAR);
        fed.changes("11 year of none", x -> x.year(0), "tape", "FAULT", YEAR);
        Still still = new Still(CHECK, Still::rich);
        still.changes("11 year", x -> Check.year(x, "dinner by di;"), "FAULT", YEAR);
    }

    private static void theBill() {
        Still still = new Still(CHECK, Still::richAndFed);
        still.changes("22 order", x -> x.order(9, 1), "told 2", "told 5", "dishes", YEAR);
        still.changes("22 order, common", x -> x.order(9, LetMe.NONE), "told 2", "told 5", "dishes", YEAR);
        still.changes("23 strike", LetMe::strike, "told 2", "told 5", "dishes", YEAR);
        still.changes("24 split", x -> x.split(0) ? 1 : 0, "told 3", YEAR);
        still.changes("25 law", x -> x.law(0) ? 1 : 0, "told 4", YEAR);
    }

    private static void whoPays() {
        Still still = new Still(CHECK, Still::richAndFed);
        for (int person = 0; person < 4; person++) {
            int who = person;
            still.changes("28 pay " + person, x -> x.pay(who), "told 7", "paid", "owes", YEAR);
        }
        still.changes("31 duel", x -> x.duel(1, 2) ? 1 : 0, "FRACTION");
        still.changes("32 goes", x -> x.goes(1, 0) ? 1 : 0, "FRACTION");
        still.changes("33 trio", x -> x.trio(0, 1, 2, 1) ? 1 : 0, "FRACTION");
        still.changes("34 reach", x -> x.reach(15, 1) ? 1 : 0, "FRACTION");
    }

    private static void whoOwesWhom() {
        Still still = new Still(CHECK, Still::richAndFed);
        still.changes("39 lend", x -> x.lend(3, 0, 5), "owes", YEAR);
        still.changes("57 gift", x -> x.gift(2, 3, 5), "told 9", "owes", YEAR);
        still.changes("45 simplify", LetMe::simplify, "owes", YEAR);
        Still both = new Still(CHECK, () -> {
            LetMe x = Still.richAndFed();
            x.lend(0, 3, 9);
            x.lend(3, 0, 7);
            return x;
        });
        both.changes("41 quits", x -> x.quits(3, 0), "owes", YEAR);
        still.changes("57 a gift for nothing", x -> x.gift(3, 2, 5), "told 9", YEAR);
    }

    private static void rounds() {
        Still still = new Still(CHECK, Still::richAndFed);
        still.changes("49 comes", x -> x.comes(3, 1), "told 11", YEAR);
        still.changes("49 leaves", x -> x.comes(2, 0), "told 11", YEAR);
        still.changes("51 round", LetMe::round, "told 8", "drinks", YEAR);
    }

    private static void years() {
        Still still = new Still(CHECK, Still::richAndFed);
        still.changes("60 live", x -> x.live(3), "told 7", "told 8", "paid", "drinks", "owes", YEAR);
        still.changes("62 mean", x -> x.mean(0, 3, 3) ? 1 : 0, "FRACTION");
        Still other = new Still(CHECK, () -> {
            LetMe x = Still.rich();
            Check.year(x, "lend ann to bob 9;gift ann to bob 3;duel ann with cy;round;round;");
            return x;
        });
        other.changes("60 live", x -> x.live(3), "told 7", "told 8", "told 9", "paid", "drinks", "owes", "lived", YEAR);
    }

    private static void marks() {
        Still still = new Still(CHECK, Still::richAndFed);
        still.changes("63 mark", LetMe::mark, "MARK ", "room");
        still.changes("64 back", LetMe::back, "told 4", "owes", "MARK ", "room", YEAR);
    }
}
