import java.util.List;

/** The bounds that the document names for promises 9 and 10: the tape, a TABLE as a text, its FAULTS. */
public final class TableEdgesTest {
    private static final Check CHECK = new Check("TableEdgesTest");
    private static final int LEAST = Integer.MIN_VALUE;
    private static final int MOST = Integer.MAX_VALUE;
    private static final String TWO = "person a;person b;";
    private static final String SIX = "person a;person b;person c;person d;person e;person f;";
    private static final String COUPLES = SIX + "couple a b;couple c d;couple e f;";

    public static void main(String[] args) {
        nineHundredOnTheTape();
        bytesInOrder();
        firstBytesOfTheTape();
        noSuchNumberOfBytes();
        anEmptyText();
        nineHundredBytes();
        eachByteAlone();
        blanks();
        tokensAsLongAsTheyGo();
        numbersOfOneToFourDigits();
        namesOfOneToEightLetters();
        keptWords();
        insists();
        quick();
        minds();
        means();
        withoutTraits();
        traitsInOrder();
        prices();
        owed();
        splitsAndLaws();
        sixPeople();
        threeCouples();
        sixteenDishes();
        noTokenBeginsSo();
        cannotStand();
        theEndOfTheText();
        names();
        numbersThatCannotBe();
        itselfAndTwice();
        oneTooMany();
        theFirstAlongTheText();
        theLeastKind();
        aFaultLeavesTheOldOne();
        aNewTable();
        whatATableLeaves();
        CHECK.finish();
    }

    private static int blank(LetMe x) {
        return x.feed(0x20202020, 0x20202020, 0x20202020, 0x20202020, 0x20202020);
    }

    private static LetMe full() {
        LetMe x = Still.rich();
        Check.feed(x, "person zoe;person a;" + " ".repeat(860) + "person b;person c;  ");
        return x;
    }

    /** "NONE if there would be more than 900." */
    private static void nineHundredOnTheTape() {
        LetMe x = new LetMe();
        for (int many = 20; many <= 900; many += 20) {
            CHECK.due("9 feed", blank(x), many);
        }
        CHECK.due("9 would be 920", blank(x), LetMe.NONE);
        CHECK.due("9 would be 920 again", blank(x), LetMe.NONE);
        CHECK.given(x, "9 all 900", x.table(900), 0);
        CHECK.due("9 the next first", blank(x), 20);
        new Still(CHECK, TableEdgesTest::full).unchanged("9 would be 920", y -> y.feed(1, 2, 3, 4, 5));
        LetMe z = full();
        CHECK.due("9 would be 920", z.feed(1, 2, 3, 4, 5), LetMe.NONE);
        CHECK.given(z, "9 first and last are there", z.table(900), 4);
    }

    /** "The highest of each int first." */
    private static void bytesInOrder() {
        for (int place = 0; place < 20; place++) {
            LetMe x = new LetMe();
            int[] ints = {0x20202020, 0x20202020, 0x20202020, 0x20202020, 0x20202020};
            ints[place / 4] ^= (0x20 ^ 0xFB) << 8 * (3 - place % 4);
            blank(x);
            CHECK.due("9 behind those", x.feed(ints[0], ints[1], ints[2], ints[3], ints[4]), 40);
            CHECK.fault(x, "9 byte " + place, x.table(40), 1, 20 + place);
        }
    }

    /** "The first n bytes of the tape (which is empty then)." */
    private static void firstBytesOfTheTape() {
        String text = "person a;person b;person c;";
        int[] ends = {0, 9, 18, 27};
        for (int i = 0; i < ends.length; i++) {
            LetMe x = Still.rich();
            Check.feed(x, text);
            CHECK.given(x, "10 the first " + ends[i], x.table(ends[i]), i);
            CHECK.given(x, "10 people", x.told(0), i);
            CHECK.refused(x, "10 empty then", x.table(1), 1);
            CHECK.due("10 empty then", blank(x), 20);
        }
        LetMe y = new LetMe();
        Check.feed(y, text);
        CHECK.fault(y, "10 the first 26", y.table(26), 2, 26);
        CHECK.due("10 empty with 9, too", blank(y), 20);
    }

    /** "1: n below 0, or more than the tape has, too." */
    private static void noSuchNumberOfBytes() {
        Still empty = new Still(CHECK, Still::rich);
        for (int n : new int[] {LEAST, -2, -1, 1, 2, 20, 900, 901, MOST}) {
            empty.refused("10 of an empty tape " + n, x -> x.table(n), 1);
            empty.refused("11 of an empty tape " + n, x -> x.year(n), 1);
        }
        Still fed = new Still(CHECK, Still::richAndFed);
        for (int n : new int[] {LEAST, -1, 41, 42, 900, 901, MOST}) {
            fed.refused("10 of 40 bytes " + n, x -> x.table(n), 1);
            fed.refused("11 of 40 bytes " + n, x -> x.year(n), 1);
        }
        LetMe one = Still.richAndFed();
        CHECK.given(one, "10 all 40", one.table(40), 3);
        Still full = new Still(CHECK, TableEdgesTest::full);
        for (int n : new int[] {-1, 901, 920, MOST}) {
            full.refused("10 of 900 bytes " + n, x -> x.table(n), 1);
        }
    }

    private static void anEmptyText() {
        for (String text : List.of("", " ", "\n", " \n \n\n  ")) {
            LetMe x = Still.rich();
            CHECK.given(x, "10 blanks alone", Check.table(x, text), 0);
            CHECK.due("10 blanks alone, fault", x.fault(0), 0);
            CHECK.due("10 blanks alone, place", x.fault(1), LetMe.NONE);
            for (int what = 0; what <= 11; what++) {
                CHECK.given(x, "10 blanks alone told(" + what + ")", x.told(what), 0);
            }
            CHECK.refused(x, "10 blanks alone, no year", x.live(0), 6);
        }
    }

    /** "A TEXT of at most 900 bytes." */
    private static void nineHundredBytes() {
        String end = "person z;";
        LetMe x = new LetMe();
        CHECK.given(x, "10 a PART at the very end", Check.table(x, TWO + " ".repeat(900 - TWO.length() - end.length()) + end), 3);
        CHECK.fault(x, "10 a FAULT in the last byte", Check.table(x, TWO + " ".repeat(899 - TWO.length()) + "?"), 1, 899);
        CHECK.fault(x, "10 a FAULT at the end", Check.table(x, TWO + " ".repeat(894 - TWO.length()) + "person"), 2, 900);
        CHECK.fault(x, "10 of no blank behind the end", Check.table(x, "dish 7" + " ".repeat(894)), 2, 900);
        StringBuilder tight = new StringBuilder(TWO);
        while (tight.length() <= 900 - 3 * "owes a b 5;".length()) {
            tight.append("owes a b 5;");
        }
        tight.append("owes a b ");
        while (tight.length() < 895) {
            tight.append('\n');
        }
        LetMe y = new LetMe();
        CHECK.given(y, "10 900 bytes of PARTS", Check.table(y, tight + "9876;"), 2);
        CHECK.given(y, "10 the last of them", y.owes(0, 1), 9_876);
    }

    /** "1 no TOKEN begins so": all but small letters, digits, four SIGNS and two blanks. */
    private static void eachByteAlone() {
        for (int each = 0; each < 256; each++) {
            LetMe x = new LetMe();
            char sign = (char) each;
            if (each == 10 || each == 32) {
                CHECK.given(x, "10 a blank " + each, Check.table(x, "" + sign), 0);
                CHECK.given(x, "11 a blank " + each, Check.year(x, "" + sign), 0);
            } else {
                boolean isToken = "abcdefghijklmnopqrstuvwxyz0123456789;<>=".indexOf(sign) >= 0;
                CHECK.fault(x, "10 byte " + each, Check.table(x, "" + sign), isToken ? 2 : 1, 0);
                CHECK.fault(x, "11 byte " + each, Check.year(x, " " + sign), isToken ? 2 : 1, 1);
                if (!isToken) {
                    CHECK.fault(x, "10 behind a WORD, byte " + each, Check.table(x, "dish" + sign), 1, 4);
                    CHECK.fault(x, "10 in a NUMBER, byte " + each, Check.table(x, "dish 9" + sign + "9;"), 1, 6);
                    CHECK.fault(x, "11 in a WORD, byte " + each, Check.year(x, "rou" + sign + "nd;"), 2, 0);
                }
            }
        }
    }

    /** "Between them blanks (10, 32)." */
    private static void blanks() {
        String[] good = {"person a;", " person a ; ", "\n\nperson\na\n;\n", "person\n a;\n \n", "person    a;"};
        for (String text : good) {
            LetMe x = new LetMe();
            CHECK.given(x, "10 " + text, Check.table(x, text), 1);
        }
        fault("per son a;", 2, 0);
        fault("person\n\n;", 2, 8);
        fault("dish 1 0;", 2, 7);
        fault("dish 99 9;", 2, 8);
        fault("person a ins ists 3;", 2, 9);
        LetMe x = new LetMe();
        CHECK.given(x, "10 a NAME ends at a NUMBER, a NUMBER at a WORD", Check.table(x, "person a insists16quick20minds99means999guest;"), 1);
        CHECK.given(x, "10 insists", x.person(0, 0), 16);
        CHECK.given(x, "10 means", x.person(0, 3), 999);
        CHECK.given(x, "10 guest", x.told(10), 1);
    }

    private static void tokensAsLongAsTheyGo() {
        fault("persona;", 2, 0);
        fault("persons a;", 2, 0);
        fault("person a insistsquick 3;", 2, 9);
        fault("dish 5by a;", 3, 9);
        fault("dish 5 bya;", 2, 7);
        fault(TWO + "owes ab 5;", 3, 23);
        fault(TWO + "owes a bb 5;", 3, 25);
        LetMe x = new LetMe();
        CHECK.given(x, "10 b5 is a NAME and a NUMBER", Check.table(x, TWO + "owes a b5;"), 2);
        CHECK.given(x, "38 b5 is a NAME and a NUMBER", x.owes(0, 1), 5);
        CHECK.given(x, "10 couples is no couple", Check.table(x, TWO + "couple a b;split couples;"), 2);
        fault(TWO + "couples a b;", 2, 18);
        fault(TWO + "split couple;", 2, 24);
    }

    private static void fault(String text, int kind, int place) {
        LetMe x = new LetMe();
        CHECK.fault(x, "10 " + text, Check.table(x, text), kind, place);
    }

    /** "NUMBERS (1 to 4 digits)"; "a NUMBER of 5 digits and more: at its first". */
    private static void numbersOfOneToFourDigits() {
        for (String number : List.of("7", "07", "007", "0007")) {
            LetMe x = new LetMe();
            CHECK.given(x, "10 " + number, Check.table(x, "dish " + number + ";"), 0);
            CHECK.given(x, "10 " + number + " is 7", x.dish(0, 0), 7);
        }
        for (String number : List.of("00007", "00000", "10000", "12345", "99999", "000000", "4294967303", "18446744073709551623")) {
            fault("dish " + number + ";", 1, 5);
            fault("person a insists " + number + ";", 1, 17);
            fault(TWO + "owes a b " + number + ";", 1, 27);
            fault(number, 1, 0);
            fault(number + " dish 5;", 1, 0);
        }
        fault("dish 7" + "0".repeat(800), 1, 5);
        fault("dish 1234x;", 4, 5);
        fault("dish 12345x;", 1, 5);
    }

    /** "NAME: a WORD of 1 to 8 letters"; "a WORD of 9 letters and more where a NAME must stand". */
    private static void namesOfOneToEightLetters() {
        for (int letters = 1; letters <= 8; letters++) {
            String name = "zyxwvuts".substring(0, letters);
            LetMe x = new LetMe();
            CHECK.given(x, "10 of " + letters, Check.table(x, "person q;person " + name + ";dish 5 by " + name + ";owes q " + name + " 5;"), 2);
            CHECK.given(x, "10 by " + name, x.dish(0, 1), 1);
            CHECK.given(x, "10 owes " + name, x.owes(0, 1), 5);
        }
        for (int letters : new int[] {9, 10, 12, 13, 14, 16, 20, 32, 64, 200}) {
            String name = "z".repeat(letters);
            fault("person " + name + ";", 2, 7);
            fault(TWO + "dish 5 by " + name + ";", 2, 28);
            fault(TWO + "couple " + name + " a;", 2, 25);
            fault(TWO + "couple a " + name + ";", 2, 27);
            fault(TWO + "owes " + name + " a 5;", 2, 23);
            fault(TWO + "owes a " + name + " 5;", 2, 25);
            fault(name, 2, 0);
            // a longer WORD that ends as a NAME, or a kept WORD, does
            fault("person a;dish 5 by " + name + "a;", 2, 19);
            fault("person a;" + name + "dish 5;", 2, 9);
            fault(name + "aaaaaaaaaaaaadish 5;", 2, 0);
        }
        LetMe near = new LetMe();
        CHECK.given(near, "10 no two are taken for one", Check.table(near,
            "person a;person aa;person aaaaaaaa;person aaaaaaa;person zaaaaaaa;person aaaaaaaz;"), 6);
        fault("person aaaaaaaa;person aaaaaaaa;", 3, 23);
    }

    /** "That is none of person, insists, .. stop." */
    private static void keptWords() {
        CHECK.due("10 kept words", TextModel.KEPT.size(), 29);
        for (String word : TextModel.KEPT) {
            fault("person " + word + ";", 2, 7);
            fault(TWO + "couple " + word + " a;", 2, 25);
            fault(TWO + "couple a " + word + ";", 2, 27);
            fault(TWO + "dish 5 by " + word + ";", 2, 28);
            fault(TWO + "owes " + word + " a 5;", 2, 23);
            fault(TWO + "owes a " + word + " 5;", 2, 25);
            for (String name : List.of("q" + word, word + "q", word.substring(1), word.substring(0, word.length() - 1))) {
                boolean isName = !name.isEmpty() && name.length() <= 8 && !TextModel.KEPT.contains(name);
                LetMe x = new LetMe();
                if (isName) {
                    CHECK.given(x, "10 a NAME " + name, Check.table(x, "person " + name + ";dish 5 by " + name + ";"), 1);
                } else {
                    CHECK.fault(x, "10 no NAME " + name, Check.table(x, "person " + name + ";"), 2, 7);
                }
            }
        }
    }

    private static void trait(String word, int what, int most) {
        for (int value : new int[] {0, 1, most - 1, most}) {
            LetMe x = new LetMe();
            CHECK.given(x, "10 " + word + " " + value, Check.table(x, "person a " + word + " " + value + ";"), 1);
            CHECK.given(x, "14 " + word + " " + value, x.person(0, what), value);
        }
        Still still = new Still(CHECK, Still::rich);
        for (int value : new int[] {most + 1, most + 2, 9_999}) {
            still.tableFault("person a " + word + " " + value + ";", 4, 10 + word.length());
        }
        fault("person a " + word + " 10000;", 1, 10 + word.length());
        fault("person a " + word + ";", 2, 9 + word.length());
        fault("person a " + word + " b;", 2, 10 + word.length());
        fault("person a " + word + " 1 " + word + " 1;", 2, 12 + word.length());
    }

    /** "INSISTS (0 to 16)." */
    private static void insists() {
        trait("insists", 0, 16);
    }

    /** "QUICK (0 to 20)." */
    private static void quick() {
        trait("quick", 1, 20);
    }

    /** "MINDS (0 to 99)." */
    private static void minds() {
        trait("minds", 2, 99);
    }

    /** "MEANS (0 to 999)." */
    private static void means() {
        trait("means", 3, 999);
    }

    /** "0 without", "1 without", "0 without", "999 without". */
    private static void withoutTraits() {
        LetMe x = Still.rich();
        Check.table(x, "person z insists 9 quick 9 minds 9 means 9 guest;person y insists 9 quick 9 minds 9 means 9 guest;");
        CHECK.given(x, "10 without", Check.table(x, "person a;person b;"), 2);
        int[] wants = {0, 1, 0, 999};
        for (int person = 0; person < 2; person++) {
            for (int what = 0; what < wants.length; what++) {
                CHECK.given(x, "14 without " + what, x.person(person, what), wants[what]);
            }
            CHECK.refused(x, "14 without a couple", x.person(person, 4), 6);
            CHECK.given(x, "14 has not paid", x.person(person, 5), 0);
        }
        CHECK.given(x, "13 no guests", x.told(10), 0);
    }

    /** "[insists NUMBER] [quick NUMBER] [minds NUMBER] [means NUMBER] [guest]": each perhaps, in this order. */
    private static void traitsInOrder() {
        String[] traits = {"insists 5 ", "quick 6 ", "minds 7 ", "means 8 ", "guest "};
        int[] without = {0, 1, 0, 999};
        for (int set = 0; set < 32; set++) {
            StringBuilder text = new StringBuilder("person a ");
            for (int i = 0; i < 5; i++) {
                text.append((set >> i & 1) == 1 ? traits[i] : "");
            }
            LetMe x = new LetMe();
            CHECK.given(x, "10 " + text, Check.table(x, text + ";"), 1);
            for (int i = 0; i < 4; i++) {
                CHECK.given(x, "14 " + text, x.person(0, i), (set >> i & 1) == 1 ? 5 + i : without[i]);
            }
            CHECK.given(x, "13 " + text, x.told(10), set >> 4);
        }
        for (int i = 0; i < 5; i++) {
            for (int j = 0; j <= i; j++) {
                fault("person a " + traits[i] + traits[j] + ";", 2, 9 + traits[i].length());
            }
        }
    }

    /** "A price (1 to 999), had BY a person, or COMMON." */
    private static void prices() {
        for (int price : new int[] {1, 2, 998, 999}) {
            LetMe x = new LetMe();
            CHECK.given(x, "10 price " + price, Check.table(x, TWO + "dish " + price + " by b;dish " + price + ";"), 2);
            CHECK.given(x, "15 price " + price, x.dish(0, 0), price);
            CHECK.given(x, "15 by", x.dish(0, 1), 1);
            CHECK.given(x, "15 price " + price, x.dish(1, 0), price);
            CHECK.refused(x, "15 common", x.dish(1, 1), 6);
        }
        Still still = new Still(CHECK, Still::rich);
        for (String price : List.of("0", "0000", "1000", "1001", "9999")) {
            still.tableFault("dish " + price + ";", 4, 5);
        }
        fault("dish 10000;", 1, 5);
    }

    /** "OWES: the first the second so much (0 to 9,999; told again: the latest)." */
    private static void owed() {
        for (int much : new int[] {0, 1, 9_998, 9_999}) {
            LetMe x = new LetMe();
            CHECK.given(x, "10 owes " + much, Check.table(x, TWO + "owes a b 77;owes b a 5;owes a b " + much + ";"), 2);
            CHECK.given(x, "38 the latest " + much, x.owes(0, 1), much);
            CHECK.given(x, "38 the other way " + much, x.owes(1, 0), 5);
        }
        fault(TWO + "owes a b 10000;", 1, 27);
    }

    private static void splitsAndLaws() {
        String[] splits = {"heads", "eaten", "couples"};
        String[] laws = {"turn", "owing", "quick", "insists"};
        for (String word : TextModel.KEPT) {
            int split = List.of(splits).indexOf(word);
            int law = List.of(laws).indexOf(word);
            LetMe x = Still.rich();
            if (split >= 0) {
                CHECK.given(x, "10 split " + word, Check.table(x, "split " + word + ";"), 0);
                CHECK.given(x, "13 split " + word, x.told(3), split);
                CHECK.given(x, "13 law without", x.told(4), 0);
            } else {
                fault("split " + word + ";", 2, 6);
            }
            if (law >= 0) {
                CHECK.given(x, "10 law " + word, Check.table(x, "law " + word + ";"), 0);
                CHECK.given(x, "13 law " + word, x.told(4), law);
                CHECK.given(x, "13 split without", x.told(3), 0);
            } else {
                fault("law " + word + ";", 2, 4);
            }
        }
    }

    /** "PEOPLE, at most 6"; "6 a seventh person (at that WORD)". */
    private static void sixPeople() {
        LetMe x = Still.rich();
        CHECK.given(x, "10 six", Check.table(x, SIX), 6);
        CHECK.given(x, "13 six", x.told(0), 6);
        CHECK.given(x, "14 the sixth", x.person(5, 1), 1);
        CHECK.refused(x, "14 no seventh", x.person(6, 1), 1);
        Still still = new Still(CHECK, Still::rich);
        still.tableFault(SIX + "person g;", 6, 54);
        still.tableFault(SIX + "person", 6, 54);
        still.tableFault(SIX + "dish 5; person a;", 6, 62);
    }

    /** "COUPLES, at most 3: two PEOPLE, neither of whom is of another one." */
    private static void threeCouples() {
        LetMe x = Still.rich();
        CHECK.given(x, "10 three couples", Check.table(x, COUPLES), 6);
        CHECK.given(x, "13 three couples", x.told(1), 3);
        int[] others = {1, 0, 3, 2, 5, 4};
        for (int i = 0; i < 6; i++) {
            CHECK.given(x, "14 the other one of " + i, x.person(i, 4), others[i]);
        }
        Still still = new Still(CHECK, Still::rich);
        still.tableFault(COUPLES + "couple a b;", 6, 87);
        still.tableFault(COUPLES + "couple", 6, 87);
    }

    /** "DISHES, at most 16." */
    private static void sixteenDishes() {
        String dishes = "dish 5;".repeat(16);
        LetMe x = Still.rich();
        CHECK.given(x, "10 sixteen", Check.table(x, dishes + TWO), 2);
        CHECK.given(x, "13 sixteen", x.told(2), 16);
        CHECK.given(x, "15 the 16th", x.dish(15, 0), 5);
        CHECK.refused(x, "15 no 17th", x.dish(16, 0), 1);
        Still still = new Still(CHECK, Still::rich);
        still.tableFault(dishes + "dish 5;", 6, 112);
        still.tableFault(dishes + "dish", 6, 112);
        still.tableFault(TWO + dishes + "dish 0 by c;", 6, 130);
    }

    private static void noTokenBeginsSo() {
        Still still = new Still(CHECK, Still::rich);
        still.tableFault("Person a;", 1, 0);
        still.tableFault("person a, b;", 1, 8);
        still.tableFault("person a;dish 5.;", 1, 15);
        still.tableFault("person a;\tdish 5;", 1, 9);
        still.tableFault("person a;\u0000", 1, 9);
        still.tableFault("dish 12345;", 1, 5);
        still.tableFault(TWO + "owes a b -5;", 1, 27);
    }

    private static void cannotStand() {
        Still still = new Still(CHECK, Still::rich);
        still.tableFault("a;", 2, 0);
        still.tableFault("5;", 2, 0);
        still.tableFault(";", 2, 0);
        still.tableFault("person 5;", 2, 7);
        still.tableFault("person;", 2, 6);
        still.tableFault("person guest;", 2, 7);
        still.tableFault("person a b;", 2, 9);
        still.tableFault("person a 5;", 2, 9);
        still.tableFault("person a<;", 2, 8);
        still.tableFault(TWO + "couple a b c;", 2, 29);
        still.tableFault(TWO + "couple 5 b;", 2, 25);
        still.tableFault(TWO + "dish by a;", 2, 23);
        still.tableFault(TWO + "dish 5 by 5;", 2, 28);
        still.tableFault(TWO + "dish 5 by a b;", 2, 30);
        still.tableFault(TWO + "owes a 5;", 2, 25);
        still.tableFault(TWO + "owes a b;", 2, 26);
        still.tableFault(TWO + "owes a b c;", 2, 27);
        still.tableFault(TWO + "owes a b 5 5;", 2, 29);
        still.tableFault("split a;", 2, 6);
        still.tableFault("law 5;", 2, 4);
        still.tableFault("split heads eaten;", 2, 12);
        still.tableFault("round;", 2, 0);
        still.tableFault("dish 5;;", 2, 7);
    }

    /** "2 it can't stand there (the end: the text's length)": behind each TOKEN but the last of a PART. */
    private static void theEndOfTheText() {
        String[] tokens = ("person a insists 1 quick 2 minds 3 means 4 guest ; person b ; couple a b ; dish 10 by b ; dish 20 ; "
            + "owes a b 30 ; split eaten ; law owing ;").split(" ");
        StringBuilder text = new StringBuilder();
        for (String token : tokens) {
            text.append(token);
            for (String blanks : List.of("", " ", "\n \n")) {
                String each = text + blanks;
                if (token.equals(";")) {
                    LetMe x = new LetMe();
                    CHECK.due("10 good: " + each, Check.table(x, each) >= 0, true);
                } else {
                    fault(each, 2, each.length());
                }
            }
            text.append(' ');
        }
    }

    /** "3 a new NAME that is taken; a NAME that is no person told ahead." */
    private static void names() {
        Still still = new Still(CHECK, Still::rich);
        still.tableFault("person a;person a;", 3, 16);
        still.tableFault(TWO + "person b;", 3, 25);
        still.tableFault("couple a b;person a;person b;", 3, 7);
        still.tableFault("person a;couple a b;person b;", 3, 18);
        still.tableFault("dish 5 by a;person a;", 3, 10);
        still.tableFault("owes a b 5;person a;person b;", 3, 5);
        still.tableFault("person a;owes a b 5;person b;", 3, 16);
        // those of the old TABLE are no PEOPLE of the new one
        still.tableFault("dish 5 by ann;", 3, 10);
        LetMe x = Still.rich();
        CHECK.given(x, "10 an old NAME is free", Check.table(x, "person cy;person ann;"), 2);
        LetMe y = Still.rich();
        Check.table(y, "person zoe;dish 0;");
        CHECK.fault(y, "11 one of a faulty TABLE is nobody", Check.year(y, "dinner by zoe;"), 3, 10);
        CHECK.given(y, "11 the old ones are still there", Check.year(y, "dinner by di;"), 1);
    }

    private static void numbersThatCannotBe() {
        fault("person a insists 17;", 4, 17);
        fault("person a insists 16 quick 21;", 4, 26);
        fault("person a insists 16 quick 20 minds 100;", 4, 35);
        fault("person a insists 16 quick 20 minds 99 means 1000;", 4, 44);
        fault("dish 0;", 4, 5);
        fault("dish 1000 by zoe;", 4, 5);
    }

    /** "5 a person with itself (at the second NAME); of a COUPLE already (at that NAME); split, law told already." */
    private static void itselfAndTwice() {
        Still still = new Still(CHECK, Still::rich);
        still.tableFault(TWO + "couple a a;", 5, 27);
        still.tableFault(TWO + "owes b b 5;", 5, 25);
        still.tableFault(TWO + "person c;couple a b;couple a c;", 5, 45);
        still.tableFault(TWO + "person c;couple a b;couple b c;", 5, 45);
        still.tableFault(TWO + "person c;couple a b;couple c a;", 5, 47);
        still.tableFault(TWO + "person c;couple a b;couple c b;", 5, 47);
        still.tableFault(TWO + "couple a b;couple a a;", 5, 36);
        still.tableFault("split heads;split heads;", 5, 12);
        still.tableFault("split heads;dish 5;split eaten;", 5, 19);
        still.tableFault("law turn;law quick;", 5, 9);
        still.tableFault("law turn;split heads;law", 5, 21);
        LetMe x = new LetMe();
        CHECK.given(x, "10 one split, one law", Check.table(x, "law quick;split eaten;"), 0);
        CHECK.given(x, "10 anew in another text", Check.table(x, "law insists;split couples;"), 0);
        CHECK.given(x, "13 law", x.told(4), 3);
        CHECK.given(x, "13 split", x.told(3), 2);
    }

    private static void oneTooMany() {
        fault(COUPLES + "dish 1;".repeat(16) + "person", 6, COUPLES.length() + 112);
        fault(COUPLES + "dish 1;".repeat(16) + "couple", 6, COUPLES.length() + 112);
        fault(COUPLES + "dish 1;".repeat(16) + "dish", 6, COUPLES.length() + 112);
        LetMe x = new LetMe();
        CHECK.given(x, "10 owes are not counted", Check.table(x, COUPLES + "dish 1;".repeat(16) + "owes a b 5;".repeat(40)), 6);
    }

    /** "FAULTS, the first along the text." */
    private static void theFirstAlongTheText() {
        fault("person a insists 17;dish 0;person a;!", 4, 17);
        fault("dish 5 by a;!", 3, 10);
        fault("! dish 0;", 1, 0);
        fault("dish 5 dish 0;!", 2, 7);
        fault("split heads;split !", 5, 12);
        fault(SIX + "person !", 6, 54);
        fault("person a;person a insists 17;", 3, 16);
        fault("person a insists 17 quick;", 4, 17);
        fault(TWO + "owes a a 10000;", 5, 25);
        fault(TWO + "owes c a 5;owes a a 5;", 3, 23);
        // a TABLE's FAULT tells of the text alone, not of the one ahead
        LetMe x = new LetMe();
        CHECK.fault(x, "10 the one ahead", Check.table(x, "dish 0;"), 4, 5);
        CHECK.fault(x, "10 the next one", Check.table(x, "     dish x;"), 2, 10);
    }

    /** "Of one TOKEN the least kind." */
    private static void theLeastKind() {
        fault("12345", 1, 0);
        fault("dish ?", 1, 5);
        fault("dish 55555", 1, 5);
        fault(SIX + "couple person", 2, 61);
        fault("dish 1;".repeat(16) + "law dish", 2, 116);
        fault("split heads;law split;", 2, 16);
        fault("law turn;dish 5 law;", 2, 16);
        fault(COUPLES + "dish couple;", 2, 92);
        fault(TWO + "couple a b;couple c a;", 3, 36);
        fault(TWO + "couple a b;couple a z;", 5, 36);
    }

    /** "9: the old one stays"; "with 9 the tape, and what fault() tells". */
    private static void aFaultLeavesTheOldOne() {
        Still still = new Still(CHECK, Still::rich);
        String start = "person q insists 3 guest;person r;couple q r;dish 9 by q;owes q r 9;split heads;law turn;";
        int end = start.length();
        still.tableFault(start + "!", 1, end);
        still.tableFault(start + "stop;", 2, end);
        still.tableFault(start + "person q;", 3, end + 7);
        still.tableFault(start + "dish 0;", 4, end + 5);
        still.tableFault(start + "law turn;", 5, end);
        still.tableFault(start + "dish 1;".repeat(15) + "dish 1;", 6, end + 105);
        LetMe x = Still.rich();
        Check.feed(x, "person q;dish 0;");
        CHECK.fault(x, "10 the tape is empty", x.table(16), 4, 14);
        CHECK.refused(x, "10 the tape is empty", x.table(1), 1);
        CHECK.due("10 STATUS 1 leaves the FAULT", x.fault(1), 14);
        CHECK.given(x, "10 a good one", Check.table(x, "person q;"), 1);
        CHECK.due("10 takes it off", x.fault(0), 0);
        CHECK.due("10 takes it off", x.fault(1), LetMe.NONE);
    }

    /** "There in place of that ahead; nobody has PAID, there were no ROUNDS, gifts, there is no YEAR." */
    private static void aNewTable() {
        LetMe x = Still.rich();
        CHECK.given(x, "10 taken", Check.table(x, "person ann;person bob;person cy;person di;"), 4);
        String fresh = Still.table(Check.at("person ann;person bob;person cy;person di;"));
        CHECK.due("10 as on a new object: " + Still.table(x) + " for " + fresh, Still.table(x).equals(fresh), true);
        CHECK.given(x, "13 all are in", x.told(11), 15);
        CHECK.given(x, "13 paid", x.told(7), 0);
        CHECK.given(x, "13 rounds", x.told(8), 0);
        CHECK.given(x, "13 gifts", x.told(9), 0);
        CHECK.refused(x, "60 no year", x.live(0), 6);
        CHECK.denied(x, "62 no year", x.mean(0, 0, 1), 6);
        LetMe y = Still.rich();
        CHECK.given(y, "10 of nobody", Check.table(y, ""), 0);
        CHECK.due("10 as a new object", Still.table(y).equals(Still.table(new LetMe())), true);
        CHECK.refused(y, "60 no year", y.live(0), 6);
    }

    /** MARKS, TRAYS, the FRACTION and what lived() tells are none of the TABLE. */
    private static void whatATableLeaves() {
        LetMe x = Still.rich();
        int said = x.lived(2);
        int dinners = x.lived(1);
        Check.table(x, "person q;");
        CHECK.given(x, "5 TRAYS stay", x.read(0, 2), 127);
        CHECK.due("3 the FRACTION stays", x.top(), 0);
        CHECK.given(x, "61 what was lived stays", x.lived(2), said);
        CHECK.given(x, "61 what was lived stays", x.lived(1), dinners);
        CHECK.given(x, "63 MARKS stay", x.mark(), 3);
        CHECK.given(x, "64 MARKS stay", x.back(), 2);
        CHECK.given(x, "64 this TABLE", x.told(0), 1);
        CHECK.given(x, "64 MARKS stay", x.back(), 1);
        CHECK.given(x, "64 the one ahead", x.told(0), 4);
    }
}
