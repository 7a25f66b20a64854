/** Promises 9 to 15: the tape, TABLE and YEAR as texts, FAULTS, what was told. */
public final class TextsTest {
    private static final Check CHECK = new Check("TextsTest");
    private static final String[] KEPT = {"person", "insists", "quick", "minds", "means", "guest", "couple", "dish",
        "by", "owes", "split", "heads", "eaten", "couples", "law", "turn", "owing", "dinner", "duel", "lend", "gift",
        "round", "with", "to", "when", "paid", "loop", "end", "stop"};
    private static final String TWO = "person a;person b;";
    private static final String SIX = "person a;person b;person c;person d;person e;person f;";

    public static void main(String[] args) {
        tape();
        tableNumbers();
        tableTaken();
        tableFaults();
        tableNames();
        tableCounts();
        yearNumbers();
        yearFaults();
        yearSteps();
        faultTold();
        told();
        personTold();
        dishTold();
        CHECK.finish();
    }

    private static void tape() {
        LetMe x = new LetMe();
        for (int i = 1; i <= 45; i++) {
            CHECK.due("9 feed " + i, x.feed(0x20202020, 0x20202020, 0x20202020, 0x20202020, 0x20202020), 20 * i);
        }
        CHECK.due("9 feed above 900", x.feed(0, 0, 0, 0, 0), LetMe.NONE);
        CHECK.due("9 has no status", x.status(), 0);
        CHECK.refused(x, "10 more than the tape", x.table(901), 1);
        CHECK.given(x, "10 900 blanks", x.table(900), 0);
        CHECK.due("9 empty again", x.feed(0, 0, 0, 0, 0), 20);
        LetMe y = new LetMe();
        y.feed(0x70657273, 0x6f6e2061, 0x3b0a2070, 0x6572736f, 0x6e20623b);
        CHECK.given(y, "9 the highest byte first", y.table(20), 2);
    }

    private static void tableNumbers() {
        LetMe x = Check.at(TWO);
        x.pay(1);
        CHECK.refused(x, "10 below 0", x.table(-1), 1);
        CHECK.refused(x, "10 more than the tape", x.table(1), 1);
        Check.feed(x, "person zoe;");
        CHECK.refused(x, "10 more than the tape has", x.table(21), 1);
        CHECK.due("10 the tape stays", x.feed(0, 0, 0, 0, 0), 40);
        CHECK.given(x, "10 the old one stays", x.told(0), 2);
        CHECK.given(x, "10 taken", x.table(11), 1);
        CHECK.refused(x, "10 the tape is empty", x.table(1), 1);
        LetMe y = Check.at(TWO);
        CHECK.fault(y, "10 a fault", Check.table(y, "person c;dish 0;"), 4, 14);
        CHECK.given(y, "10 the old one stays", y.told(0), 2);
        CHECK.refused(y, "10 the tape is empty", y.table(1), 1);
        CHECK.due("10 fault stays", y.fault(0), 4);
    }

    private static void tableTaken() {
        LetMe x = Check.at("person a insists 3;dish 90;split eaten;law quick;person b;owes a b 7;couple a b;", "round;");
        x.pay(0);
        x.round();
        x.gift(0, 1, 1);
        x.comes(1, 0);
        x.live(1);
        CHECK.given(x, "10 another", Check.table(x, "person c;person d guest;person e;"), 3);
        int[] wants = {3, 0, 0, 0, 0, 0, 2, 0, 0, 0, 2, 7};
        for (int what = 0; what < wants.length; what++) {
            CHECK.given(x, "10 told(" + what + ")", x.told(what), wants[what]);
        }
        CHECK.given(x, "10 no owes", x.owes(0, 1), 0);
        CHECK.given(x, "10 no drinks", x.drinks(0), 0);
        CHECK.refused(x, "10 no year", x.live(0), 6);
        CHECK.refused(x, "10 no couple", x.person(0, 4), 6);
        LetMe used = Check.at("person a guest;person b;person c;dish 9;", "dinner by a;dinner by b;round;gift a to b 1;");
        used.comes(2, 0);
        used.mean(0, 0, 3);
        CHECK.given(used, "10 behind a mean", Check.table(used, "person a;person b;"), 2);
        for (int what = 7; what <= 10; what++) {
            CHECK.given(used, "10 behind a mean told(" + what + ")", used.told(what), 0);
        }
        CHECK.given(used, "10 behind a mean, in", used.told(11), 3);
        for (int i = 0; i < 2; i++) {
            CHECK.given(used, "10 behind a mean, paid", used.person(i, 5), 0);
            CHECK.given(used, "10 behind a mean, drinks", used.drinks(i), 0);
            CHECK.given(used, "10 behind a mean, owes", used.owes(i, 1 - i), 0);
        }
        LetMe y = Check.at("person\nx\n\n insists08quick0020minds 099means0guest;split   couples ; law owing;");
        CHECK.given(y, "10 no blanks needed", y.person(0, 0), 8);
        CHECK.given(y, "10 leading 0s", y.person(0, 1), 20);
        CHECK.given(y, "10 leading 0s", y.person(0, 2), 99);
        CHECK.given(y, "10 means 0", y.person(0, 3), 0);
        CHECK.given(y, "10 split", y.told(3), 2);
        CHECK.given(y, "10 law", y.told(4), 1);
        LetMe z = Check.at(TWO + "owes a b 5;owes b a 3;owes a b 9999;");
        CHECK.given(z, "10 owes, the latest", z.owes(0, 1), 9999);
        CHECK.given(z, "10 owes, the other way", z.owes(1, 0), 3);
    }

    private static void tableFault(String text, int kind, int place) {
        LetMe x = new LetMe();
        CHECK.fault(x, "10 " + text, Check.table(x, text), kind, place);
    }

    private static void tableFaults() {
        tableFault("Person a;", 1, 0);
        tableFault("person a\t;", 1, 8);
        tableFault("person a\r;", 1, 8);
        tableFault("person a," , 1, 8);
        tableFault("dish 00001;", 1, 5);
        tableFault("dish 12345 by!", 1, 5);
        tableFault("\u0080", 1, 0);
        tableFault("person \u00ffa;", 1, 7);
        tableFault("12345", 1, 0);
        tableFault("1234", 2, 0);
        tableFault(";", 2, 0);
        tableFault("a", 2, 0);
        tableFault("person a", 2, 8);
        tableFault("person a \n ", 2, 11);
        tableFault("person", 2, 6);
        tableFault("person 5;", 2, 7);
        tableFault("person a quick;", 2, 14);
        tableFault("person a guest quick 3;", 2, 15);
        tableFault("person a quick 3 insists 3;", 2, 17);
        tableFault("person a guest guest;", 2, 15);
        tableFault("person a;;", 2, 9);
        tableFault("person a;person b;couple a;", 2, 26);
        tableFault("person abcdefghi;", 2, 7);
        tableFault("person a;dish 5 by abcdefghi;", 2, 19);
        tableFault("abcdefghijklmnop", 2, 0);
        tableFault("dish a;", 2, 5);
        tableFault("dish 5 a;", 2, 7);
        tableFault("dish 5 by;", 2, 9);
        tableFault("owes;", 2, 4);
        tableFault("split;", 2, 5);
        tableFault("split quick;", 2, 6);
        tableFault("law heads;", 2, 4);
        tableFault("law < ;", 2, 4);
        tableFault("dinner;", 2, 0);
        tableFault("end;", 2, 0);
        tableFault("person a;person a;", 3, 16);
        tableFault("couple a b;", 3, 7);
        tableFault("person a;couple a b;", 3, 18);
        tableFault("person a;owes b a 3;", 3, 14);
        tableFault("person a;dish 3 by b;", 3, 19);
        tableFault("person a insists 17;", 4, 17);
        tableFault("person a insists 9999;", 4, 17);
        tableFault("person a quick 21;", 4, 15);
        tableFault("person a minds 100;", 4, 15);
        tableFault("person a means 1000;", 4, 15);
        tableFault("dish 0;", 4, 5);
        tableFault("dish 1000;", 4, 5);
        tableFault(TWO + "couple a a;", 5, 27);
        tableFault(TWO + "couple b a;couple a b;", 5, 36);
        tableFault(TWO + "owes a a 3;", 5, 25);
        tableFault(TWO + "person c;couple a b;couple c b;", 5, 47);
        tableFault("split heads;split heads;", 5, 12);
        tableFault("law turn;law", 5, 9);
        tableFault("split heads;law turn;split", 5, 21);
    }

    private static void tableNames() {
        for (String word : KEPT) {
            tableFault("person " + word + ";", 2, 7);
            tableFault("person a;dish 1 by " + word + ";", 2, 19);
            LetMe x = new LetMe();
            String near = word.length() < 8 ? word + "q" : word;
            CHECK.given(x, "10 name " + near, Check.table(x, "person " + near + ";"), 1);
        }
        LetMe x = new LetMe();
        CHECK.given(x, "10 names of 1 to 8", Check.table(x, "person abcdefgh;person b;person abcdefg;dish 1 by abcdefgh;"), 3);
        CHECK.given(x, "10 of 8 letters", x.dish(0, 1), 0);
        tableFault("person abcdefgh;dish 1 by zabcdefgh;", 2, 26);
        tableFault("person abcdefgh;dish 1 by zbcdefgh;", 3, 26);
        tableFault("person a;person aa;person aaa;person aa;", 3, 37);
    }

    private static void tableCounts() {
        tableFault(SIX + "person", 6, 54);
        tableFault(SIX + "person a;", 6, 54);
        tableFault(SIX + "couple a b;couple c d;couple e f;couple", 6, 87);
        tableFault("dish 1;".repeat(16) + "dish", 6, 112);
        LetMe x = new LetMe();
        CHECK.given(x, "10 the most of all", Check.table(x, SIX + "couple a f;couple c d;couple e b;" + "dish 999;".repeat(16)), 6);
        CHECK.given(x, "10 couples", x.told(1), 3);
        CHECK.given(x, "10 dishes", x.told(2), 16);
        CHECK.given(x, "10 bill", x.told(5), 16 * 999);
        StringBuilder full = new StringBuilder(TWO);
        while (full.length() + 13 <= 900) {
            full.append("owes a b 12 ;");
        }
        while (full.length() < 900) {
            full.append('\n');
        }
        LetMe y = new LetMe();
        CHECK.given(y, "10 of 900 bytes", Check.table(y, full.toString()), 2);
        CHECK.given(y, "10 the traits at their most", Check.table(y, "person a insists 16 quick 20 minds 99 means 999 guest;"), 1);
        full.setCharAt(899, '?');
        CHECK.fault(y, "10 fault in the 900th", Check.table(y, full.toString()), 1, 899);
    }

    private static void yearNumbers() {
        LetMe x = Check.at(TWO);
        CHECK.refused(x, "11 below 0", x.year(-1), 1);
        CHECK.refused(x, "11 more than the tape", x.year(1), 1);
        CHECK.given(x, "11 of nothing", x.year(0), 0);
        CHECK.given(x, "11 of nothing is a year", x.live(0), 0);
        Check.feed(x, "round;" + " ".repeat(314));
        CHECK.refused(x, "11 above 300", x.year(301), 1);
        CHECK.given(x, "11 300", x.year(300), 1);
        CHECK.refused(x, "11 the tape is empty", x.year(1), 1);
        CHECK.given(x, "11 it is there", x.live(0), 1);
        CHECK.fault(x, "11 a fault", Check.year(x, "dinner;round;x"), 2, 13);
        CHECK.given(x, "11 the old one stays", x.live(0), 1);
        CHECK.refused(x, "11 the tape is empty", x.year(1), 1);
        LetMe y = new LetMe();
        CHECK.given(y, "11 of nobody's table", Check.year(y, "dinner;round;stop;"), 3);
        CHECK.fault(y, "11 nobody", Check.year(y, "dinner by a;"), 3, 10);
    }

    private static void yearFault(String text, int kind, int place) {
        LetMe x = Check.at(TWO);
        CHECK.fault(x, "11 " + text, Check.year(x, text), kind, place);
        CHECK.refused(x, "11 no year", x.live(0), 6);
    }

    private static void yearFaults() {
        yearFault("dinner.", 1, 6);
        yearFault("lend a to b 10000;", 1, 12);
        yearFault("when paid a ! 3;", 1, 12);
        yearFault("dinner", 2, 6);
        yearFault("dinner a;", 2, 7);
        yearFault("dinner by;", 2, 9);
        yearFault("dinner by dish;", 2, 10);
        yearFault("dinner by abcdefghi;", 2, 10);
        yearFault("duel a b;", 2, 7);
        yearFault("duel a to b;", 2, 7);
        yearFault("lend a with b 5;", 2, 7);
        yearFault("lend a to b;", 2, 11);
        yearFault("gift a b 3;", 2, 7);
        yearFault("round 3;", 2, 6);
        yearFault("stop", 2, 4);
        yearFault("end;", 2, 0);
        yearFault("round;end;", 2, 6);
        yearFault("loop 3;round;", 2, 13);
        yearFault("loop 3; \n", 2, 9);
        yearFault("loop 3;end", 2, 10);
        yearFault("loop 3;end;end;", 2, 11);
        yearFault("loop;", 2, 4);
        yearFault("when;", 2, 4);
        yearFault("when dinner;", 2, 5);
        yearFault("when paid a 3;", 2, 12);
        yearFault("when paid a ; 3;", 2, 12);
        yearFault("when paid a < ;", 2, 14);
        yearFault("when paid a < b;", 2, 14);
        yearFault("when owes a < 3;", 2, 12);
        yearFault("when owes a b 3;", 2, 14);
        yearFault("when turn a < 3;", 2, 12);
        yearFault("when turn a;", 2, 12);
        yearFault("person a;", 2, 0);
        yearFault("with", 2, 0);
        yearFault("paid", 2, 0);
        yearFault("by", 2, 0);
        yearFault("to", 2, 0);
        yearFault("dinner by c;", 3, 10);
        yearFault("duel c with a;", 3, 5);
        yearFault("duel a with c;", 3, 12);
        yearFault("when turn c;", 3, 10);
        yearFault("when owes a c<1;", 3, 12);
        yearFault("lend a to b 0;", 4, 12);
        yearFault("lend a to b 1000;", 4, 12);
        yearFault("gift a to b 0;", 4, 12);
        yearFault("gift a to b 1000;", 4, 12);
        yearFault("loop 0;end;", 4, 5);
        yearFault("loop 100;end;", 4, 5);
        yearFault("when paid a=1000;end;", 4, 12);
        yearFault("duel a with a;", 5, 12);
        yearFault("lend b to b 5;", 5, 10);
        yearFault("gift b to b 5;", 5, 10);
        yearFault("when owes a a<1;", 5, 12);
        yearFault("round;".repeat(30) + "round", 6, 180);
        yearFault("round;".repeat(30) + "end", 2, 180);
        yearFault("round;".repeat(30) + "person", 2, 180);
        yearFault("loop 1;loop 1;loop 1;loop 1;", 7, 21);
        yearFault("loop 1;when turn a;loop 1;when", 7, 26);
        yearFault("loop 1;loop 1;loop 1;" + "round;".repeat(27) + "loop", 6, 183);
    }

    private static void yearSteps() {
        LetMe x = Check.at(TWO);
        CHECK.given(x, "11 30 steps", Check.year(x, "round;".repeat(30)), 30);
        CHECK.given(x, "11 30 steps and an end", Check.year(x, "loop 2;" + "round;".repeat(29) + "end;"), 30);
        CHECK.given(x, "11 three deep", Check.year(x, "loop 1;when turn a;loop 99;end;loop 1;end;end;end;"), 4);
        CHECK.given(x, "11 each kind", Check.year(x, "dinner;dinner by a;duel a with b;lend a to b 999;gift b to a 1;"
            + "round;when paid a<999;end;when owes a b>9999;end;when paid a=0;end;when turn b;end;loop 99;end;stop;"), 12);
        CHECK.given(x, "11 no blanks needed", Check.year(x, "loop3;end;when\npaid a<3;end;"), 2);
    }

    private static void faultTold() {
        LetMe x = new LetMe();
        CHECK.due("12 ahead of any", x.fault(0), LetMe.NONE);
        x.table(5);
        CHECK.due("12 with status 1", x.fault(0), LetMe.NONE);
        Check.table(x, TWO);
        CHECK.due("12 without one", x.fault(0), 0);
        CHECK.due("12 its place", x.fault(1), LetMe.NONE);
        CHECK.due("12 others", x.fault(2), LetMe.NONE);
        CHECK.due("12 others", x.fault(-1), LetMe.NONE);
        Check.year(x, "dinner by x;");
        CHECK.due("12 of a year", x.fault(0), 3);
        CHECK.due("12 its place", x.fault(1), 10);
        x.year(5);
        x.table(-5);
        CHECK.due("12 stays with status 1", x.fault(0), 3);
        CHECK.due("12 others with a fault", x.fault(2), LetMe.NONE);
        Check.year(x, "dinner;");
        CHECK.due("12 of a good year", x.fault(0), 0);
        CHECK.due("12 of a good year", x.fault(1), LetMe.NONE);
    }

    private static void told() {
        LetMe x = Check.at("person a;person b guest;person c;couple c a;dish 5;dish 7 by b;split couples;law insists;");
        x.pay(1);
        x.pay(2);
        x.pay(2);
        x.round();
        x.round();
        x.gift(0, 1, 5);
        x.comes(2, 0);
        int[] wants = {3, 1, 2, 2, 3, 12, 2, 3, 2, 1, 2, 3};
        for (int what = 0; what < wants.length; what++) {
            CHECK.given(x, "13 told(" + what + ")", x.told(what), wants[what]);
        }
        CHECK.refused(x, "13 told(-1)", x.told(-1), 1);
        CHECK.refused(x, "13 told(12)", x.told(12), 1);
        LetMe y = Check.at("person a guest;person b guest;");
        CHECK.given(y, "13 all are guests: heads", y.told(6), 2);
        CHECK.given(y, "13 guests", y.told(10), 3);
    }

    private static void personTold() {
        LetMe x = Check.at("person a insists 16 quick 20 minds 99 means 998;person b;person c;couple c a;");
        x.pay(2);
        int[][] wants = {{16, 20, 99, 998, 2, 0}, {0, 1, 0, 999, -1, 0}, {0, 1, 0, 999, 0, 1}};
        for (int person = 0; person < 3; person++) {
            for (int what = 0; what < 6; what++) {
                CHECK.due("14 person(" + person + ", " + what + ")", x.person(person, what), wants[person][what]);
            }
        }
        CHECK.refused(x, "14 no couple", x.person(1, 4), 6);
        CHECK.refused(x, "14 what -1", x.person(1, -1), 1);
        CHECK.refused(x, "14 what 6", x.person(1, 6), 1);
        CHECK.refused(x, "14 person -1", x.person(-1, 0), 1);
        CHECK.refused(x, "14 person 3", x.person(3, 0), 1);
    }

    private static void dishTold() {
        LetMe x = Check.at("person a;person b;dish 5;dish 7 by b;");
        CHECK.given(x, "15 price", x.dish(0, 0), 5);
        CHECK.refused(x, "15 common", x.dish(0, 1), 6);
        CHECK.given(x, "15 price", x.dish(1, 0), 7);
        CHECK.given(x, "15 by", x.dish(1, 1), 1);
        CHECK.refused(x, "15 dish -1", x.dish(-1, 0), 1);
        CHECK.refused(x, "15 dish 2", x.dish(2, 1), 1);
        CHECK.refused(x, "15 what -1", x.dish(0, -1), 1);
        CHECK.refused(x, "15 what 2", x.dish(0, 2), 1);
    }
}
