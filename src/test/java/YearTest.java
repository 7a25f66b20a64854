import java.util.Random;

/** Promises 60 to 62: YEARS. */
public final class YearTest {
    private static final Check CHECK = new Check("YearTest");
    private static final String TWO = "person a insists 8 quick 3;person b insists 4 quick 5;dish 100;";

    public static void main(String[] args) {
        refusals();
        plainSteps();
        draws();
        duels();
        missed();
        tests();
        loops();
        theThreeHundred();
        livedStays();
        livedAnew();
        livedFromALoop();
        mean();
        atRandom();
        CHECK.finish();
    }

    private static void refusals() {
        LetMe x = Check.at(TWO);
        CHECK.refused(x, "60 no year", x.live(5), 6);
        CHECK.refused(x, "60 1 ahead of 6", x.live(-1), 1);
        CHECK.refused(x, "60 1 ahead of 6", x.live(10_000), 1);
        CHECK.refused(x, "61 none", x.lived(0), 6);
        CHECK.refused(x, "61 1 ahead of 6", x.lived(5), 1);
        CHECK.denied(x, "62 no year", x.mean(0, 0, 1), 6);
        CHECK.denied(x, "62 1 ahead of 6", x.mean(2, 0, 1), 1);
        Check.year(x, "dinner by a;");
        CHECK.refused(x, "60 seed -1", x.live(-1), 1);
        CHECK.refused(x, "60 seed 10000", x.live(10_000), 1);
        CHECK.refused(x, "61 still none", x.lived(0), 6);
        CHECK.given(x, "60 seed 9999", x.live(9_999), 1);
        CHECK.given(x, "60 seed 0", x.live(0), 1);
        CHECK.refused(x, "61 what -1", x.lived(-1), 1);
        CHECK.refused(x, "61 what 5", x.lived(5), 1);
        CHECK.denied(x, "62 person -1", x.mean(-1, 0, 1), 1);
        CHECK.denied(x, "62 seed -1", x.mean(0, -1, 2), 1);
        CHECK.denied(x, "62 many 0", x.mean(0, 0, 0), 1);
        CHECK.denied(x, "62 many 21", x.mean(0, 0, 21), 1);
        CHECK.denied(x, "62 the last above 9,999", x.mean(0, 9_999, 2), 1);
        CHECK.denied(x, "62 seed 10000", x.mean(0, 10_000, 1), 1);
        CHECK.denied(x, "62 seed huge", x.mean(0, Integer.MAX_VALUE, 20), 1);
        CHECK.fraction(x, "62 the last is 9,999", x.mean(0, 9_980, 20), 3, 1);
    }

    private static void livedIs(LetMe x, String call, int... wants) {
        for (int what = 0; what < wants.length; what++) {
            CHECK.given(x, call + " lived(" + what + ")", x.lived(what), wants[what]);
        }
    }

    private static void plainSteps() {
        LetMe x = Check.at(TWO + "owes a b 20;", "dinner by b;lend a to b 7;gift b to a 5;gift a to b 999;round;round;stop;round;");
        CHECK.given(x, "60 steps", x.live(1), 7);
        livedIs(x, "61 plain", 0, 1, 0, 2, 0);
        CHECK.given(x, "60 a owes", x.owes(0, 1), 20 + 50 - 5);
        CHECK.given(x, "60 b owes", x.owes(1, 0), 0);
        CHECK.given(x, "60 paid", x.person(1, 5), 1);
        CHECK.given(x, "60 gifts", x.told(9), 2);
        CHECK.given(x, "60 rounds", x.told(8), 2);
        CHECK.given(x, "60 goes on from there", x.live(1), 7);
        CHECK.given(x, "60 paid", x.person(1, 5), 2);
        LetMe nothing = Check.at(TWO, " \n");
        CHECK.given(nothing, "60 no steps", nothing.live(1), 0);
        livedIs(nothing, "61 no steps", 0, 0, 0, 0, 0);
    }

    private static int next(int s) {
        return (int) ((s * 2917L + 11119) % 65536);
    }

    private static void draws() {
        for (int seed = 0; seed < 300; seed += 7) {
            LetMe x = Check.at("person a quick 3;person b quick 0;person g quick 5 guest;", "dinner;dinner;");
            CHECK.given(x, "60 live", x.live(seed), 2);
            int[] paid = new int[3];
            int s = seed;
            for (int i = 0; i < 2; i++) {
                s = next(s);
                paid[s / 8 % 8 < 3 ? 0 : 2]++;
            }
            for (int i = 0; i < 3; i++) {
                CHECK.given(x, "60 who reached", x.person(i, 5), paid[i]);
            }
        }
    }

    private static void duels() {
        for (int seed = 0; seed < 200; seed++) {
            LetMe x = Check.at("person a insists 12;person b insists 14;", "duel b with a;");
            CHECK.given(x, "60 live", x.live(seed), 1);
            int s = seed;
            int said = 0;
            boolean isB = true;
            while (true) {
                s = next(s);
                said++;
                if (s / 8 % 16 >= (isB ? 14 : 12) || said == 20) {
                    break;
                }
                isB = !isB;
            }
            boolean gaveWay = s / 8 % 16 >= (isB ? 14 : 12);
            int payer = gaveWay ? (isB ? 0 : 1) : 0;
            CHECK.given(x, "60 who stays", x.person(payer, 5), 1);
            livedIs(x, "61 duel", 0, 1, said, 0, 0);
        }
        LetMe sure = Check.at("person a insists 16;person b insists 16;", "duel a with b;");
        sure.live(5);
        CHECK.given(sure, "60 behind 20 draws the first gives way", sure.person(1, 5), 1);
        livedIs(sure, "61 twenty draws", 0, 1, 20, 0, 0);
        LetMe meek = Check.at("person a;person b;", "duel b with a;duel a with b;");
        meek.live(5);
        livedIs(meek, "61 one draw each", 0, 2, 2, 0, 0);
    }

    private static void missed() {
        LetMe nobody = new LetMe();
        Check.year(nobody, "dinner;round;");
        CHECK.given(nobody, "60 nobody", nobody.live(3), 2);
        livedIs(nobody, "61 nobody", 2, 0, 0, 0, 0);
        LetMe slow = Check.at("person a quick 0;person b quick 0;", "dinner;duel a with b;");
        slow.live(0);
        livedIs(slow, "61 all quick are 0, no draw", 1, 1, 1, 0, 0);
        LetMe out = Check.at("person a;", "round;dinner;");
        out.comes(0, 0);
        out.live(0);
        livedIs(out, "61 nobody is in", 1, 1, 0, 0, 0);
        LetMe rich = Check.at("person a;person b;dish 200;", "dinner by a;lend a to b 100;duel a with b;lend a to b 1;dinner by b;");
        for (int i = 0; i < 100; i++) {
            rich.lend(0, 1, 9_999);
        }
        CHECK.given(rich, "60 missed count as steps", rich.live(0), 5);
        CHECK.given(rich, "61 missed", rich.lived(0), 2);
        CHECK.given(rich, "60 lent", rich.owes(1, 0), 999_901);
        LetMe duel = Check.at("person a insists 16;person b;dish 200;", "duel a with b;");
        for (int i = 0; i < 100; i++) {
            duel.lend(0, 1, 9_999);
        }
        duel.live(0);
        livedIs(duel, "61 a duel that is missed has its draws", 1, 0, 2, 0, 0);
    }

    private static void tests() {
        String[] trues = {"paid a<3", "paid a=2", "paid a>1", "owes b a=100", "owes b a>99", "owes b a<101", "turn b", "owes a b<1"};
        String[] falses = {"paid a<2", "paid a=1", "paid a>2", "owes b a=99", "owes b a>100", "owes b a<100", "turn a", "owes a b>0"};
        for (int i = 0; i < trues.length; i++) {
            LetMe x = Check.at(TWO);
            x.pay(0);
            x.pay(0);
            Check.year(x, "when " + trues[i] + ";round;end;round;when " + falses[i] + ";round;round;end;");
            CHECK.given(x, "60 when " + trues[i], x.live(0), 4);
            CHECK.given(x, "61 rounds", x.lived(3), 2);
        }
        LetMe x = Check.at(TWO, "when owes b a>9999;round;end;when turn b;stop;end;dinner by a;");
        for (int i = 0; i < 2; i++) {
            x.lend(0, 1, 9_999);
        }
        x.law(1);
        CHECK.given(x, "60 above itself is above, turn by the law", x.live(0), 4);
        CHECK.given(x, "60 stopped", x.told(7), 0);
    }

    private static void loops() {
        LetMe x = Check.at(TWO, "loop 3;round;loop 2;lend a to b 1;end;end;round;");
        CHECK.given(x, "60 nested", x.live(0), 1 + 3 * (1 + 1 + 2) + 1);
        CHECK.given(x, "60 lent", x.owes(1, 0), 6);
        LetMe empty = Check.at(TWO, "loop 99;loop 99;end;loop 99;end;end;");
        CHECK.given(empty, "60 of nothing", empty.live(0), 1 + 99 * 2);
        LetMe stop = Check.at(TWO, "loop 5;round;when paid a>1;stop;end;dinner by a;end;round;");
        CHECK.given(stop, "60 stop ends all", stop.live(0), 1 + 3 + 3 + 3);
        CHECK.given(stop, "61 not by the 300", stop.lived(4), 0);
        LetMe same = Check.at(TWO, "loop 2;when turn a;loop 3;round;end;end;end;");
        CHECK.given(same, "60 ends together", same.live(0), 1 + 2 * (1 + 1 + 3));
    }

    private static void theThreeHundred() {
        String[] years = {"loop 99;round;round;end;loop 99;round;end;dinner;", "loop 99;round;round;end;loop 99;round;end;round;round;",
            "loop 99;round;round;end;loop 99;round;end;loop 99;end;", "loop 99;round;round;end;loop 99;round;end;stop;",
            "loop 99;round;round;round;end;stop;stop;", "loop 99;round;round;round;end;round;round;stop;",
            "loop 99;round;round;round;end;round;loop 9;end;", "loop 99;round;round;round;end;round;loop 9;round;end;",
            "loop 99;round;round;round;round;end;"};
        int[] steps = {300, 300, 300, 300, 299, 300, 300, 300, 300};
        int[] lefts = {0, 1, 0, 0, 0, 1, 0, 1, 1};
        for (int i = 0; i < years.length; i++) {
            LetMe x = Check.at(TWO, years[i]);
            CHECK.given(x, "60 " + years[i], x.live(4), steps[i]);
            CHECK.given(x, "61 " + years[i], x.lived(4), lefts[i]);
        }
    }

    private static void livedStays() {
        LetMe x = Check.at(TWO, "round;dinner by a;");
        x.mark();
        x.live(3);
        x.mean(0, 5, 2);
        x.live(-1);
        x.back();
        Check.table(x, "person z;");
        x.live(1);
        livedIs(x, "61 whatever came behind it", 0, 1, 0, 1, 0);
    }

    private static void livedAnew() {
        LetMe x = Check.at("person a quick 0;person b quick 0;", "loop 99;dinner;dinner by a;duel a with b;round;end;");
        x.live(3);
        livedIs(x, "61 the first", 75, 150, 75, 74, 1);
        Check.year(x, "dinner by a;");
        x.live(3);
        livedIs(x, "61 anew", 0, 1, 0, 0, 0);
        Check.year(x, "round;");
        x.live(3);
        livedIs(x, "61 anew", 0, 0, 0, 1, 0);
    }

    private static void livedFromALoop() {
        LetMe x = Check.at(TWO, "loop 5;round;loop 5;when paid a<3;dinner by a;stop;end;end;end;");
        int[] steps = {6, 6, 6, 1 + 5 * (1 + 1 + 5)};
        for (int i = 0; i < steps.length; i++) {
            CHECK.given(x, "60 behind a stop in a loop", x.live(0), steps[i]);
        }
        LetMe cut = Check.at(TWO, "round;loop 99;loop 99;round;end;end;");
        for (int i = 0; i < 3; i++) {
            CHECK.given(cut, "60 behind a cut in a loop", cut.live(0), 300);
            CHECK.given(cut, "61 behind a cut in a loop", cut.lived(3), 296);
        }
        Check.year(cut, "round;");
        CHECK.given(cut, "60 another year", cut.live(0), 1);
    }

    private static void mean() {
        LetMe x = Check.at(TWO, "dinner by a;dinner;duel a with b;");
        x.pay(0);
        long sum = 0;
        for (int seed = 40; seed < 47; seed++) {
            LetMe y = Check.at(TWO, "dinner by a;dinner;duel a with b;");
            y.pay(0);
            y.live(seed);
            sum += y.person(0, 5);
        }
        CHECK.granted(x, "62 mean", x.mean(0, 40, 7));
        CHECK.due("62 the mean of all", x.top() * 7, sum * x.bottom());
        CHECK.given(x, "62 all stays", x.person(0, 5), 1);
        CHECK.given(x, "62 all stays", x.owes(1, 0), 50);
        CHECK.refused(x, "62 is not lived", x.lived(0), 6);
        LetMe never = Check.at(TWO, "dinner by a;");
        CHECK.fraction(never, "62 0 by 1", never.mean(1, 0, 20), 0, 1);
    }

    private static void atRandom() {
        Random random = new Random(60);
        for (int run = 0; run < 400; run++) {
            new YearModel(random).compare(CHECK);
        }
    }
}

/** A YEAR made at random, lived by going down its tree. */
final class YearModel {
    private static final String NAMES = "abcdef";
    private final Random random;
    private final int many;
    private final int[] insists;
    private final int[] quick;
    private final int[] dues;
    private final int[] paid;
    private final int[] drinks;
    private final int[][] owes;
    private final int law;
    private final StringBuilder table = new StringBuilder();
    private final StringBuilder year = new StringBuilder();
    private int told;
    private int s;
    private int steps;
    private int missed;
    private int dinners;
    private int said;
    private int rounds;
    private boolean isLeft;
    private boolean isOver;

    YearModel(Random random) {
        this.random = random;
        many = 2 + random.nextInt(4);
        insists = new int[many];
        quick = new int[many];
        dues = new int[many];
        paid = new int[many];
        drinks = new int[many];
        owes = new int[many][many];
        law = random.nextInt(4);
        for (int i = 0; i < many; i++) {
            insists[i] = random.nextInt(17);
            quick[i] = random.nextInt(5) == 0 ? 0 : random.nextInt(21);
            table.append("person ").append(NAMES.charAt(i)).append(" insists ").append(insists[i]).append(" quick ")
                .append(quick[i]).append(";dish ").append(10 * i + 1).append(" by ").append(NAMES.charAt(i)).append(';');
            dues[i] = 10 * i + 1;
        }
        table.append("split eaten;law ").append(new String[] {"turn", "owing", "quick", "insists"}[law]).append(';');
    }

    void compare(Check check) {
        Step[] all = block(0);
        LetMe x = Check.at(table.toString(), year.toString());
        int seed = random.nextInt(10_000);
        s = seed;
        run(all);
        String call = table + " / " + year + " / " + seed;
        check.given(x, "60 " + call, x.live(seed), steps);
        int[] wants = {missed, dinners, said, rounds, isLeft ? 1 : 0};
        for (int i = 0; i < 5; i++) {
            check.given(x, "61 " + call + " lived " + i, x.lived(i), wants[i]);
        }
        for (int i = 0; i < many; i++) {
            check.given(x, "60 paid " + call, x.person(i, 5), paid[i]);
            check.given(x, "60 drinks " + call, x.drinks(i), drinks[i]);
            for (int j = 0; j < many; j++) {
                if (i != j) {
                    check.given(x, "60 owes " + call, x.owes(i, j), owes[i][j]);
                }
            }
        }
    }

    /** Parts of a text that are too long are left off: a block may have no STEPS. */
    private Step[] block(int depth) {
        Step[] all = new Step[random.nextInt(5)];
        for (int i = 0; i < all.length; i++) {
            all[i] = step(depth);
        }
        return all;
    }

    private Step step(int depth) {
        Step step = new Step();
        told++;
        int kind = random.nextInt(10);
        if (told >= 25 || year.length() > 200) {
            kind = 5;
        }
        step.a = random.nextInt(many);
        step.b = (step.a + 1 + random.nextInt(many - 1)) % many;
        step.kind = kind;
        char a = NAMES.charAt(step.a);
        char b = NAMES.charAt(step.b);
        switch (kind) {
            case 0 -> year.append("dinner by ").append(a).append(';');
            case 1 -> year.append("dinner;");
            case 2 -> year.append("duel ").append(a).append(" with ").append(b).append(';');
            case 3, 4 -> {
                step.number = 1 + random.nextInt(60);
                year.append(kind == 3 ? "lend " : "gift ").append(a).append(" to ").append(b).append(' ').append(step.number).append(';');
            }
            case 6, 7, 8 -> {
                if (depth == 3) {
                    step.kind = 1;
                    year.append("dinner;");
                } else if (kind == 6) {
                    step.number = 1 + random.nextInt(12);
                    year.append("loop ").append(step.number).append(';');
                    step.block = block(depth + 1);
                    year.append("end;");
                } else {
                    test(step, a, b);
                    step.block = block(depth + 1);
                    year.append("end;");
                }
            }
            case 9 -> {
                if (random.nextInt(4) == 0) {
                    year.append("stop;");
                } else {
                    step.kind = 5;
                    year.append("round;");
                }
            }
            default -> year.append("round;");
        }
        return step;
    }

    private void test(Step step, char a, char b) {
        step.test = random.nextInt(3);
        step.compares = "<>=".charAt(random.nextInt(3));
        if (step.test == 0) {
            step.number = random.nextInt(6);
            year.append("when paid ").append(a).append(step.compares).append(step.number).append(';');
        } else if (step.test == 1) {
            step.number = random.nextInt(60);
            year.append("when owes ").append(a).append(' ').append(b).append(step.compares).append(step.number).append(';');
        } else {
            year.append("when turn ").append(a).append(';');
        }
    }

    private void run(Step[] all) {
        for (Step step : all) {
            if (isOver) {
                return;
            }
            if (steps == 300) {
                isOver = true;
                isLeft = true;
                return;
            }
            steps++;
            one(step);
        }
    }

    private void one(Step step) {
        switch (step.kind) {
            case 0 -> dine(step.a);
            case 1 -> dine(reached());
            case 2 -> dine(stays(step.a, step.b));
            case 3 -> owes[step.b][step.a] += step.number;
            case 4 -> owes[step.b][step.a] = Math.max(0, owes[step.b][step.a] - step.number);
            case 6 -> {
                for (int i = 0; i < step.number; i++) {
                    run(step.block);
                }
            }
            case 7, 8 -> {
                if (holds(step)) {
                    run(step.block);
                }
            }
            case 9 -> isOver = true;
            default -> drink();
        }
    }

    private boolean holds(Step step) {
        if (step.test == 2) {
            return turn() == step.a;
        }
        int value = step.test == 0 ? paid[step.a] : owes[step.a][step.b];
        return step.compares == '<' ? value < step.number : step.compares == '>' ? value > step.number : value == step.number;
    }

    private int turn() {
        int best = -1;
        int least = 0;
        for (int i = 0; i < many; i++) {
            int balance = 0;
            for (int j = 0; j < many; j++) {
                balance += owes[j][i] - owes[i][j];
            }
            int value = new int[] {paid[i], balance, -quick[i], -insists[i]}[law];
            if (best < 0 || value < least) {
                best = i;
                least = value;
            }
        }
        return best;
    }

    private int draw(int n) {
        s = (s * 2917 + 11119) & 65535;
        return (s >> 3) % n;
    }

    private int reached() {
        StringBuilder hands = new StringBuilder();
        for (int i = 0; i < many; i++) {
            hands.append(String.valueOf(i).repeat(quick[i]));
        }
        return hands.length() == 0 ? -1 : hands.charAt(draw(hands.length())) - '0';
    }

    private int stays(int a, int b) {
        for (int go = 0; go < 20; go++) {
            said++;
            int who = go % 2 == 0 ? a : b;
            if (draw(16) >= insists[who]) {
                return who == a ? b : a;
            }
        }
        return b;
    }

    private void dine(int payer) {
        if (payer < 0) {
            missed++;
            return;
        }
        for (int i = 0; i < many; i++) {
            owes[i][payer] += i == payer ? 0 : dues[i];
        }
        paid[payer]++;
        dinners++;
    }

    private void drink() {
        int buyer = 0;
        for (int i = 1; i < many; i++) {
            buyer = drinks[i] > drinks[buyer] ? i : buyer;
        }
        for (int i = 0; i < many; i++) {
            drinks[i]++;
        }
        drinks[buyer] -= many;
        rounds++;
    }

    private static final class Step {
        private int kind;
        private int a;
        private int b;
        private int number;
        private int test;
        private char compares;
        private Step[] block;
    }
}
