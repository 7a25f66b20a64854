import java.util.Arrays;

/** A bill face down on a saucer, and who pays it: README.md says how to use it. */
public final class LetMe {
    public static final int NONE = -1;

    private static final int WRONG_NUMBER = 1;
    private static final int MISSING_TRAY = 2;
    private static final int TOO_FEW = 3;
    private static final int ONE_TOO_MANY = 4;
    private static final int WRONG_IN_TRAY = 5;
    private static final int NONE_SUCH = 6;
    private static final int CANNOT_BE = 7;
    private static final int UNLIKE_SORTS = 8;
    private static final int FAULTY = 9;

    private static final int MOST_PEOPLE = 6;
    private static final int MOST_COUPLES = 3;
    private static final int MOST_DISHES = 16;
    private static final int MOST_MARKS = 3;
    private static final int MOST_TAPE = 900;
    private static final int MOST_YEAR_TEXT = 300;
    private static final int MOST_STEPS = 30;
    private static final int MOST_NESTED = 3;
    private static final int MOST_LIVED = 300;
    private static final int MOST_OWED = 999_999;
    private static final int LAST_SEED = 9_999;
    private static final int SURE = 16;

    private static final int HEADS = 0;
    private static final int EATEN = 1;
    private static final int COUPLES = 2;

    private static final int TURN = 0;
    private static final int OWING = 1;
    private static final int QUICK = 2;
    private static final int INSISTS = 3;

    private final byte[] tape;
    private int taped;
    private final Reader reader;
    private final Trays trays;
    private final Table table;
    private final Table spare;
    private final Table[] marks;
    private int marked;
    private final Life life;
    private final int[] lifeTold;
    private boolean hasLived;
    private final int[] dues;
    private final int[] plates;
    private int status;
    private long top;
    private long bottom;
    private int faultKind;
    private int faultPlace;

    public LetMe() {
        tape = new byte[MOST_TAPE];
        reader = new Reader(tape);
        trays = new Trays();
        table = new Table();
        spare = new Table();
        marks = new Table[MOST_MARKS];
        for (int i = 0; i < MOST_MARKS; i++) {
            marks[i] = new Table();
        }
        life = new Life();
        lifeTold = new int[Life.TOLD];
        dues = new int[MOST_PEOPLE];
        plates = new int[MOST_PEOPLE];
        bottom = 1;
        faultKind = NONE;
        faultPlace = NONE;
    }

    public int status() {
        return status;
    }

    public long top() {
        return top;
    }

    public long bottom() {
        return bottom;
    }

    // ---- TRAYS

    public boolean tray(int tray, int sort, int many) {
        if (!trays.has(tray) || sort < 0 || sort > Trays.LAST_SORT || many < 0 || many > Trays.MOST_PLACES) {
            return deny(WRONG_NUMBER);
        }
        trays.lay(tray, sort, many);
        return grant();
    }

    public boolean write(int tray, int place, long v) {
        int why = placeTrouble(tray, place);
        if (why != 0) {
            return deny(why);
        }
        trays.put(tray, place, v);
        return grant();
    }

    public long read(int tray, int place) {
        int why = placeTrouble(tray, place);
        if (why != 0) {
            return refuse(why);
        }
        status = 0;
        return trays.get(tray, place);
    }

    public boolean pour(int from, int place, int to, int at, int many) {
        if (!trays.has(from) || !trays.has(to) || place < 0 || at < 0 || many < 0) {
            return deny(WRONG_NUMBER);
        }
        if (trays.isMissing(from) || trays.isMissing(to)) {
            return deny(MISSING_TRAY);
        }
        if (trays.sortOf(from) != trays.sortOf(to)) {
            return deny(UNLIKE_SORTS);
        }
        if (!trays.holds(from, place, many) || !trays.holds(to, at, many)) {
            return deny(TOO_FEW);
        }
        trays.move(from, place, to, at, many);
        return grant();
    }

    // ---- texts

    public int feed(int a, int b, int c, int d, int e) {
        if (taped + 20 > MOST_TAPE) {
            return NONE;
        }
        tapeInt(a);
        tapeInt(b);
        tapeInt(c);
        tapeInt(d);
        tapeInt(e);
        return taped;
    }

    public int table(int n) {
        if (n < 0 || n > taped) {
            return refuse(WRONG_NUMBER);
        }
        taped = 0;
        spare.clear();
        reader.open(n);
        boolean taken = new TableText(reader, spare).isTaken();
        if (!hearFault(taken)) {
            return refuse(FAULTY);
        }
        table.copyFrom(spare);
        return answer(table.people.many);
    }

    public int year(int n) {
        if (n < 0 || n > taped || n > MOST_YEAR_TEXT) {
            return refuse(WRONG_NUMBER);
        }
        taped = 0;
        spare.year.clear();
        reader.open(n);
        boolean taken = new YearText(reader, table.people, spare.year).isTaken();
        if (!hearFault(taken)) {
            return refuse(FAULTY);
        }
        table.year.copyFrom(spare.year);
        return answer(table.year.many);
    }

    public int fault(int what) {
        if (what == 0) {
            return faultKind;
        }
        return what == 1 ? faultPlace : NONE;
    }

    public int told(int what) {
        People people = table.people;
        switch (what) {
            case 0:
                return answer(people.many);
            case 1:
                return answer(people.couples);
            case 2:
                return answer(table.bill.many);
            case 3:
                return answer(table.bill.split);
            case 4:
                return answer(table.law);
            case 5:
                return answer(table.bill.total());
            case 6:
                return answer(Integer.bitCount(people.heads()));
            case 7:
                return answer(people.paidByAll());
            case 8:
                return answer(table.bar.rounds);
            case 9:
                return answer(table.gifts);
            case 10:
                return answer(people.guests);
            case 11:
                return answer(table.bar.in);
            default:
                return refuse(WRONG_NUMBER);
        }
    }

    public int person(int person, int what) {
        People people = table.people;
        if (!people.has(person)) {
            return refuse(WRONG_NUMBER);
        }
        switch (what) {
            case 0:
                return answer(people.insists[person]);
            case 1:
                return answer(people.quick[person]);
            case 2:
                return answer(people.minds[person]);
            case 3:
                return answer(people.means[person]);
            case 4:
                return answerIfAny(people.partner[person]);
            case 5:
                return answer(people.paid[person]);
            default:
                return refuse(WRONG_NUMBER);
        }
    }

    public int dish(int dish, int what) {
        Bill bill = table.bill;
        if (dish < 0 || dish >= bill.many || what < 0 || what > 1) {
            return refuse(WRONG_NUMBER);
        }
        return what == 0 ? answer(bill.prices[dish]) : answerIfAny(bill.eaters[dish]);
    }

    // ---- the BILL

    public int eaten(int person) {
        if (!table.people.has(person)) {
            return refuse(WRONG_NUMBER);
        }
        table.bill.fillEaten(table.people, plates);
        return answer(plates[person]);
    }

    public int due(int person, int split) {
        if (!table.people.has(person) || !isSplit(split)) {
            return refuse(WRONG_NUMBER);
        }
        table.bill.fillDues(table.people, split, dues);
        return answer(dues[person]);
    }

    public int unfair(int split) {
        return isSplit(split) ? answer(unfairness(split)) : refuse(WRONG_NUMBER);
    }

    public int fairest() {
        int best = HEADS;
        int least = unfairness(HEADS);
        for (int split = EATEN; split <= COUPLES; split++) {
            int unfair = unfairness(split);
            if (unfair < least) {
                best = split;
                least = unfair;
            }
        }
        return answer(best);
    }

    public int dearer(int person, int split, int other) {
        if (!table.people.has(person) || !isSplit(split) || !isSplit(other)) {
            return refuse(WRONG_NUMBER);
        }
        table.bill.fillDues(table.people, split, dues);
        int first = dues[person];
        table.bill.fillDues(table.people, other, dues);
        return answer(first - dues[person]);
    }

    public int hardest(int split) {
        if (!isSplit(split)) {
            return refuse(WRONG_NUMBER);
        }
        table.bill.fillDues(table.people, split, dues);
        return answerIfAny(firstGreatest(dues, table.people.many));
    }

    public int order(int price, int person) {
        if (price < 1 || price > Bill.DEAREST || person != NONE && !table.people.has(person)) {
            return refuse(WRONG_NUMBER);
        }
        if (table.bill.many >= MOST_DISHES) {
            return refuse(ONE_TOO_MANY);
        }
        table.bill.add(price, person);
        return answer(table.bill.many);
    }

    public int strike() {
        if (table.bill.many == 0) {
            return refuse(NONE_SUCH);
        }
        return answer(table.bill.takeLast());
    }

    public boolean split(int split) {
        if (!isSplit(split)) {
            return deny(WRONG_NUMBER);
        }
        table.bill.split = split;
        return grant();
    }

    public boolean law(int law) {
        if (!isLaw(law)) {
            return deny(WRONG_NUMBER);
        }
        table.law = law;
        return grant();
    }

    public int second(int amount, int what) {
        if (amount < 1 || amount > 9_999 || what < 0 || what > 2) {
            return refuse(WRONG_NUMBER);
        }
        Bill bill = table.bill;
        bill.lookForSets(amount);
        if (bill.sets == 0) {
            return refuse(NONE_SUCH);
        }
        if (what == 0) {
            return answer(bill.fewest);
        }
        return answer(what == 1 ? bill.sets : bill.leastSet);
    }

    public int padded(int amount) {
        if (amount < 0 || amount > 99_999) {
            return refuse(WRONG_NUMBER);
        }
        return answer(amount - table.bill.total());
    }

    // ---- who pays

    public int pay(int person) {
        if (!table.people.has(person)) {
            return refuse(WRONG_NUMBER);
        }
        table.bill.fillDues(table.people, table.bill.split, dues);
        if (!table.charge(person, dues)) {
            return refuse(CANNOT_BE);
        }
        return answer(table.people.paid[person]);
    }

    public int turn() {
        return answerIfAny(table.nextPayer(table.law));
    }

    public int turnBy(int law) {
        return isLaw(law) ? answerIfAny(table.nextPayer(law)) : refuse(WRONG_NUMBER);
    }

    public boolean duel(int a, int b) {
        int why = duelTrouble(a, b);
        if (why != 0) {
            return deny(why);
        }
        int first = table.people.insists[a];
        int second = table.people.insists[b];
        return tell(wins(first, second), whole(first, second));
    }

    public boolean goes(int a, int b) {
        int why = duelTrouble(a, b);
        if (why != 0) {
            return deny(why);
        }
        int first = table.people.insists[a];
        int second = table.people.insists[b];
        return tell((long) SURE * (SURE + first), whole(first, second));
    }

    public boolean trio(int a, int b, int c, int w) {
        People people = table.people;
        if (!areTwo(a, b) || !areTwo(b, c) || !areTwo(a, c) || w < 0 || w > 2) {
            return deny(WRONG_NUMBER);
        }
        int first = people.insists[a];
        int second = people.insists[b];
        int third = people.insists[c];
        if (neverEnds(first, second) || neverEnds(second, third) || neverEnds(first, third)) {
            return deny(NONE_SUCH);
        }
        return tell(trioTop(first, second, third, w), trioBottom(first, second, third, w));
    }

    public boolean reach(int set, int person) {
        People people = table.people;
        if (!people.has(person) || set < 1 || set > people.everyone() || !isIn(set, person)) {
            return deny(WRONG_NUMBER);
        }
        int all = people.quickOf(set);
        return all == 0 ? deny(NONE_SUCH) : tell(people.quick[person], all);
    }

    public int easyOn(int person) {
        People people = table.people;
        if (!people.has(person)) {
            return refuse(WRONG_NUMBER);
        }
        int mine = people.insists[person];
        int best = NONE;
        for (int other = 0; other < people.many; other++) {
            int theirs = people.insists[other];
            if (other == person || neverEnds(mine, theirs)) {
                continue;
            }
            if (best == NONE || isWorse(mine, theirs, people.insists[best])) {
                best = other;
            }
        }
        return answerIfAny(best);
    }

    public int regret(int person) {
        return table.people.has(person) ? answer(table.regretOf(person)) : refuse(WRONG_NUMBER);
    }

    public int sorest() {
        int best = NONE;
        int most = 0;
        for (int person = 0; person < table.people.many; person++) {
            int sore = table.regretOf(person);
            if (best == NONE || sore > most) {
                best = person;
                most = sore;
            }
        }
        return answerIfAny(best);
    }

    // ---- who OWES whom

    public int owes(int a, int b) {
        return areTwo(a, b) ? answer(table.debts.get(a, b)) : refuse(WRONG_NUMBER);
    }

    public int lend(int a, int b, int much) {
        if (!areTwo(a, b) || much < 1 || much > 9_999) {
            return refuse(WRONG_NUMBER);
        }
        if (!table.debts.add(b, a, much)) {
            return refuse(CANNOT_BE);
        }
        return answer(table.debts.get(b, a));
    }

    public int balance(int person) {
        return table.people.has(person) ? answer(table.debts.balanceOf(person)) : refuse(WRONG_NUMBER);
    }

    public int quits(int a, int b) {
        if (!areTwo(a, b)) {
            return refuse(WRONG_NUMBER);
        }
        int less = Math.min(table.debts.get(a, b), table.debts.get(b, a));
        table.debts.lower(a, b, less);
        table.debts.lower(b, a, less);
        return answer(less);
    }

    public int settle() {
        return answer(table.debts.fewestPayings(table.people.many));
    }

    public int ties() {
        return answer(table.debts.countTies());
    }

    public int extreme(int what) {
        if (what < 0 || what > 1) {
            return refuse(WRONG_NUMBER);
        }
        int many = table.people.many;
        int[] balances = table.debts.weigh();
        return answerIfAny(what == 0 ? firstLeast(balances, many) : firstGreatest(balances, many));
    }

    public int simplify() {
        if (!spare.debts.settles(table.debts.weigh(), table.people.many)) {
            return refuse(CANNOT_BE);
        }
        table.debts.copyFrom(spare.debts);
        return answer(table.debts.countTies());
    }

    public int chain(int person) {
        if (!table.people.has(person)) {
            return refuse(WRONG_NUMBER);
        }
        int found = 1 << person;
        for (int pass = 0; pass < MOST_PEOPLE; pass++) {
            for (int each = 0; each < MOST_PEOPLE; each++) {
                if (isIn(found, each)) {
                    found |= table.debts.creditorsOf(each);
                }
            }
        }
        return answer(found & ~(1 << person));
    }

    public int even(int n) {
        return isHeadPrice(n) ? answerIfAny(table.fewestDinners(n)) : refuse(WRONG_NUMBER);
    }

    public int evenBy(int n, int person) {
        if (!isHeadPrice(n) || !table.people.has(person)) {
            return refuse(WRONG_NUMBER);
        }
        int dinners = table.fewestDinners(n);
        if (dinners == NONE) {
            return refuse(NONE_SUCH);
        }
        return answer(isIn(table.people.heads(), person) ? table.dinnersBy(n, dinners, person) : 0);
    }

    // ---- ROUNDS

    public int comes(int person, int what) {
        if (!table.people.has(person) || what < 0 || what > 1) {
            return refuse(WRONG_NUMBER);
        }
        if (isIn(table.bar.in, person) == (what == 1)) {
            return refuse(CANNOT_BE);
        }
        table.bar.in ^= 1 << person;
        return answer(Integer.bitCount(table.bar.in));
    }

    public int buys() {
        return answerIfAny(table.bar.buyer());
    }

    public int round() {
        return answerIfAny(table.bar.serve());
    }

    public int drinks(int person) {
        return table.people.has(person) ? answer(table.bar.ahead[person]) : refuse(WRONG_NUMBER);
    }

    public int evenRounds() {
        Bar trial = spare.bar;
        trial.copyFrom(table.bar);
        for (int rounds = 0; rounds <= 60 && trial.in != 0; rounds++) {
            if (trial.isEven()) {
                return answer(rounds);
            }
            trial.serve();
        }
        return refuse(NONE_SUCH);
    }

    // ---- gifts

    public int giftAt(int pence, int hundredths, int k) {
        if (!isGiftRow(pence, hundredths) || k < 0 || k > 60) {
            return refuse(WRONG_NUMBER);
        }
        int worth = pence;
        for (int i = 0; i < k; i++) {
            worth = nextGift(worth, hundredths);
            if (worth > MOST_OWED) {
                return refuse(CANNOT_BE);
            }
        }
        return answer(worth);
    }

    public int ends(int a, int b, int pence, int hundredths) {
        if (!areTwo(a, b) || !isGiftRow(pence, hundredths)) {
            return refuse(WRONG_NUMBER);
        }
        return answer(giftsUntilEnd(a, b, pence, hundredths));
    }

    public int wasted(int a, int b, int pence, int hundredths) {
        if (!areTwo(a, b) || !isGiftRow(pence, hundredths)) {
            return refuse(WRONG_NUMBER);
        }
        int given = giftsUntilEnd(a, b, pence, hundredths);
        int worth = pence;
        int sum = 0;
        for (int i = 0; i < given; i++) {
            sum += worth;
            worth = nextGift(worth, hundredths);
        }
        return answer(sum);
    }

    public int gift(int a, int b, int much) {
        if (!areTwo(a, b) || much < 1 || much > 9_999) {
            return refuse(WRONG_NUMBER);
        }
        table.give(a, b, much);
        return answer(table.debts.get(b, a));
    }

    // ---- receipts

    public int receipts(int tray, int dinners, int n, int to) {
        int people = table.people.many;
        if (!trays.has(tray) || !trays.has(to) || n < 1 || n > 999 || dinners < 0 || people == 0) {
            return refuse(WRONG_NUMBER);
        }
        if (trays.isMissing(tray) || trays.isMissing(to)) {
            return refuse(MISSING_TRAY);
        }
        if (!trays.holds(tray, 0, dinners) || !trays.holds(to, 0, people)) {
            return refuse(TOO_FEW);
        }
        if (!trays.areWithin(tray, dinners, 0, people - 1)) {
            return refuse(WRONG_IN_TRAY);
        }
        // all is reckoned, in the row of dues, ahead of the first put: both may be the same TRAY
        Arrays.fill(dues, 0);
        for (int i = 0; i < dinners; i++) {
            addReceipt((int) trays.get(tray, i), n);
        }
        for (int i = 0; i < people; i++) {
            trays.put(to, i, dues[i]);
        }
        return answer(people);
    }

    public int remembers(int tray) {
        int people = table.people.many;
        if (!trays.has(tray)) {
            return refuse(WRONG_NUMBER);
        }
        if (trays.isMissing(tray)) {
            return refuse(MISSING_TRAY);
        }
        if (!trays.holds(tray, 0, people)) {
            return refuse(TOO_FEW);
        }
        if (!trays.areWithin(tray, people, -9_999_999, 9_999_999)) {
            return refuse(WRONG_IN_TRAY);
        }
        int worst = NONE;
        long most = 0;
        for (int i = 0; i < people; i++) {
            long off = Math.abs(trays.get(tray, i) - table.debts.balanceOf(i));
            if (off > most) {
                worst = i;
                most = off;
            }
        }
        return answerIfAny(worst);
    }

    // ---- YEARS

    public int live(int seed) {
        if (seed < 0 || seed > LAST_SEED) {
            return refuse(WRONG_NUMBER);
        }
        if (!table.year.isThere) {
            return refuse(NONE_SUCH);
        }
        life.run(table, seed);
        life.tellTo(lifeTold);
        hasLived = true;
        return answer(life.steps);
    }

    public int lived(int what) {
        if (what < 0 || what >= Life.TOLD) {
            return refuse(WRONG_NUMBER);
        }
        return hasLived ? answer(lifeTold[what]) : refuse(NONE_SUCH);
    }

    public boolean mean(int person, int seed, int many) {
        if (!table.people.has(person) || many < 1 || many > 20 || seed < 0 || seed > LAST_SEED + 1 - many) {
            return deny(WRONG_NUMBER);
        }
        if (!table.year.isThere) {
            return deny(NONE_SUCH);
        }
        long sum = 0;
        for (int i = 0; i < many; i++) {
            spare.copyFrom(table);
            life.run(spare, seed + i);
            sum += spare.people.paid[person];
        }
        return tell(sum, many);
    }

    // ---- MARKS

    public int mark() {
        if (marked >= MOST_MARKS) {
            return refuse(ONE_TOO_MANY);
        }
        marks[marked].copyFrom(table);
        marked++;
        return answer(marked);
    }

    public int back() {
        if (marked <= 0) {
            return refuse(NONE_SUCH);
        }
        marked--;
        table.copyFrom(marks[marked]);
        return answer(marked);
    }

    // ---- what the calls share

    private int answer(int value) {
        status = 0;
        return value;
    }

    private int answerIfAny(int value) {
        return value == NONE ? refuse(NONE_SUCH) : answer(value);
    }

    private int refuse(int why) {
        status = why;
        return NONE;
    }

    private boolean grant() {
        status = 0;
        return true;
    }

    private boolean deny(int why) {
        status = why;
        return false;
    }

    private boolean tell(long over, long under) {
        long divisor = commonDivisor(over, under);
        if (divisor > 0) {
            top = over / divisor;
            bottom = under / divisor;
        }
        return grant();
    }

    private int placeTrouble(int tray, int place) {
        if (!trays.has(tray)) {
            return WRONG_NUMBER;
        }
        if (trays.isMissing(tray)) {
            return MISSING_TRAY;
        }
        return place >= 0 && trays.holds(tray, place, 1) ? 0 : TOO_FEW;
    }

    private void tapeInt(int four) {
        for (int shift = 24; shift >= 0 && taped < MOST_TAPE; shift -= 8) {
            tape[taped] = (byte) (four >> shift);
            taped++;
        }
    }

    private boolean hearFault(boolean taken) {
        faultKind = taken ? 0 : reader.faultKind;
        faultPlace = taken ? NONE : reader.faultPlace;
        return taken;
    }

    private int unfairness(int split) {
        table.bill.fillDues(table.people, split, dues);
        table.bill.fillEaten(table.people, plates);
        int sum = 0;
        for (int i = 0; i < table.people.many; i++) {
            sum += Math.abs(dues[i] - plates[i]);
        }
        return sum;
    }

    private int duelTrouble(int a, int b) {
        if (!areTwo(a, b)) {
            return WRONG_NUMBER;
        }
        return neverEnds(table.people.insists[a], table.people.insists[b]) ? NONE_SUCH : 0;
    }

    private boolean areTwo(int a, int b) {
        return a != b && table.people.has(a) && table.people.has(b);
    }

    private int giftsUntilEnd(int a, int b, int pence, int hundredths) {
        int[] means = table.people.means;
        int worth = pence;
        int given = 0;
        // each gift is dearer than the last, and no MEANS are above 999
        while (given < 1_000 && worth <= means[given % 2 == 0 ? a : b]) {
            worth = nextGift(worth, hundredths);
            given++;
        }
        return given;
    }

    private void addReceipt(int payer, int n) {
        int heads = table.people.heads();
        for (int i = 0; i < table.people.many; i++) {
            if (i != payer && isIn(heads, i)) {
                dues[i] -= n;
                dues[payer] += n;
            }
        }
    }

    private static boolean isSplit(int split) {
        return split >= HEADS && split <= COUPLES;
    }

    private static boolean isLaw(int law) {
        return law >= TURN && law <= INSISTS;
    }

    private static boolean isHeadPrice(int n) {
        return n >= 1 && n <= 99;
    }

    private static boolean isGiftRow(int pence, int hundredths) {
        return pence >= 1 && pence <= 999 && hundredths >= 0 && hundredths <= 100;
    }

    private static int nextGift(int last, int hundredths) {
        return last + last * hundredths / 100 + 1;
    }

    private static boolean isIn(int set, int person) {
        return (set >> person & 1) == 1;
    }

    private static int firstGreatest(int[] row, int many) {
        int best = many > 0 ? 0 : NONE;
        for (int i = 1; i < many && i < row.length; i++) {
            if (row[i] > row[best]) {
                best = i;
            }
        }
        return best;
    }

    private static int firstLeast(int[] row, int many) {
        int best = many > 0 ? 0 : NONE;
        for (int i = 1; i < many && i < row.length; i++) {
            if (row[i] < row[best]) {
                best = i;
            }
        }
        return best;
    }

    /** Of two that INSIST by sixteenths ODDS and GOES have one bottom: whole(). */
    private static boolean neverEnds(int first, int second) {
        return first == SURE && second == SURE;
    }

    private static long wins(int first, int second) {
        return (long) first * (SURE - second);
    }

    private static long whole(int first, int second) {
        return (long) SURE * SURE - (long) first * second;
    }

    private static boolean isWorse(int mine, int theirs, int than) {
        return wins(mine, theirs) * whole(mine, than) < wins(mine, than) * whole(mine, theirs);
    }

    /** The one told as w is left if the one ahead gives way first, or the one behind. */
    private static long trioTop(int a, int b, int c, int w) {
        int own = pick(a, b, c, w);
        int next = pick(a, b, c, w + 1);
        int last = pick(a, b, c, w + 2);
        long begins = firstOut(a, b, c, (w + 2) % 3) * wins(own, next) * whole(last, own);
        long follows = firstOut(a, b, c, (w + 1) % 3) * SURE * (SURE - last) * whole(own, next);
        return begins + follows;
    }

    private static long trioBottom(int a, int b, int c, int w) {
        int own = pick(a, b, c, w);
        long out = (long) SURE * SURE * SURE - (long) a * b * c;
        return out * whole(own, pick(a, b, c, w + 1)) * whole(pick(a, b, c, w + 2), own);
    }

    private static long firstOut(int a, int b, int c, int who) {
        switch (who) {
            case 0:
                return (long) (SURE - a) * SURE * SURE;
            case 1:
                return (long) a * (SURE - b) * SURE;
            default:
                return (long) a * b * (SURE - c);
        }
    }

    private static int pick(int a, int b, int c, int place) {
        switch (place % 3) {
            case 0:
                return a;
            case 1:
                return b;
            default:
                return c;
        }
    }

    /** Of 0 and another number it is that number, so that 0 is told as 0 by 1. */
    private static long commonDivisor(long a, long b) {
        long more = a;
        long less = b;
        for (int i = 0; i < 200 && less != 0; i++) {
            long rest = more % less;
            more = less;
            less = rest;
        }
        return more;
    }

    private static void copyRow(int[] from, int[] to) {
        System.arraycopy(from, 0, to, 0, Math.min(from.length, to.length));
    }

    /** Rows of numbers, all in one array, so that laying a TRAY makes nothing. */
    private static final class Trays {
        static final int MANY = 4;
        static final int LAST_SORT = 3;
        static final int MOST_PLACES = 60;

        private final int[] sorts = new int[MANY];
        private final int[] sizes = new int[MANY];
        private final long[] numbers = new long[MANY * MOST_PLACES];

        Trays() {
            Arrays.fill(sorts, NONE);
        }

        boolean has(int tray) {
            return tray >= 0 && tray < MANY;
        }

        boolean isMissing(int tray) {
            return sorts[tray] == NONE;
        }

        int sortOf(int tray) {
            return sorts[tray];
        }

        void lay(int tray, int sort, int many) {
            sorts[tray] = sort;
            sizes[tray] = many;
            for (int i = 0; i < MOST_PLACES; i++) {
                numbers[tray * MOST_PLACES + i] = 0;
            }
        }

        /** The difference, as place and many together may be above what an int holds. */
        boolean holds(int tray, int place, int many) {
            return place <= sizes[tray] && many <= sizes[tray] - place;
        }

        long get(int tray, int place) {
            return numbers[tray * MOST_PLACES + place];
        }

        void put(int tray, int place, long v) {
            numbers[tray * MOST_PLACES + place] = cut(sorts[tray], v);
        }

        void move(int from, int place, int to, int at, int many) {
            System.arraycopy(numbers, from * MOST_PLACES + place, numbers, to * MOST_PLACES + at, many);
        }

        boolean areWithin(int tray, int many, long least, long most) {
            for (int i = 0; i < many && i < MOST_PLACES; i++) {
                long v = get(tray, i);
                if (v < least || v > most) {
                    return false;
                }
            }
            return true;
        }

        private static long cut(int sort, long v) {
            switch (sort) {
                case 0:
                    return (byte) v;
                case 1:
                    return (short) v;
                case 2:
                    return (int) v;
                default:
                    return v;
            }
        }
    }

    /** The PEOPLE as they were told, and how often each has PAID. */
    private static final class People {
        int many;
        int couples;
        int guests;
        private final long[] names = new long[MOST_PEOPLE];
        final int[] insists = new int[MOST_PEOPLE];
        final int[] quick = new int[MOST_PEOPLE];
        final int[] minds = new int[MOST_PEOPLE];
        final int[] means = new int[MOST_PEOPLE];
        final int[] partner = new int[MOST_PEOPLE];
        final int[] paid = new int[MOST_PEOPLE];

        void clear() {
            many = 0;
            couples = 0;
            guests = 0;
        }

        void copyFrom(People other) {
            many = other.many;
            couples = other.couples;
            guests = other.guests;
            System.arraycopy(other.names, 0, names, 0, MOST_PEOPLE);
            copyRow(other.insists, insists);
            copyRow(other.quick, quick);
            copyRow(other.minds, minds);
            copyRow(other.means, means);
            copyRow(other.partner, partner);
            copyRow(other.paid, paid);
        }

        boolean has(int person) {
            return person >= 0 && person < many;
        }

        int find(long name) {
            for (int i = 0; i < many; i++) {
                if (names[i] == name) {
                    return i;
                }
            }
            return NONE;
        }

        /** The caller has looked that there are fewer than the most. */
        int add(long name) {
            int person = many;
            names[person] = name;
            partner[person] = NONE;
            paid[person] = 0;
            many++;
            return person;
        }

        void join(int a, int b) {
            partner[a] = b;
            partner[b] = a;
            couples++;
        }

        int everyone() {
            return (1 << many) - 1;
        }

        int heads() {
            int heads = everyone() & ~guests;
            return heads == 0 ? everyone() : heads;
        }

        /** Who pays of each UNIT: of a COUPLE of two HEADS the first one alone. */
        int unitPayers() {
            int heads = heads();
            int payers = heads;
            for (int i = 0; i < many; i++) {
                int other = partner[i];
                if (other >= 0 && other < i && isIn(heads, i) && isIn(heads, other)) {
                    payers &= ~(1 << i);
                }
            }
            return payers;
        }

        int quickOf(int set) {
            int sum = 0;
            for (int i = 0; i < many; i++) {
                if (isIn(set, i)) {
                    sum += quick[i];
                }
            }
            return sum;
        }

        int paidByAll() {
            int sum = 0;
            for (int i = 0; i < many; i++) {
                sum += paid[i];
            }
            return sum;
        }
    }

    /** The DISHES, how they are shared out, and what a SECOND BILL was made of. */
    private static final class Bill {
        static final int DEAREST = 999;

        int many;
        int split;
        final int[] prices = new int[MOST_DISHES];
        final int[] eaters = new int[MOST_DISHES];
        int sets;
        int fewest;
        int leastSet;
        private final int[] rests = new int[MOST_DISHES + 1];

        void clear() {
            many = 0;
            split = HEADS;
        }

        void copyFrom(Bill other) {
            many = other.many;
            split = other.split;
            copyRow(other.prices, prices);
            copyRow(other.eaters, eaters);
        }

        /** The caller has looked that there are fewer than the most. */
        void add(int price, int eater) {
            prices[many] = price;
            eaters[many] = eater;
            many++;
        }

        /** The caller has looked that there is one. */
        int takeLast() {
            many--;
            return prices[many];
        }

        int total() {
            int sum = 0;
            for (int i = 0; i < many; i++) {
                sum += prices[i];
            }
            return sum;
        }

        void fillEaten(People people, int[] out) {
            Arrays.fill(out, 0);
            int common = 0;
            for (int i = 0; i < many; i++) {
                int eater = eaters[i];
                if (people.has(eater)) {
                    out[eater] += prices[i];
                } else {
                    common += prices[i];
                }
            }
            spread(common, people.everyone(), out);
        }

        void fillDues(People people, int by, int[] out) {
            if (by == EATEN) {
                fillEaten(people, out);
                spread(takeFromGuests(people, out), people.heads(), out);
            } else {
                Arrays.fill(out, 0);
                spread(total(), by == COUPLES ? people.unitPayers() : people.heads(), out);
            }
        }

        private static int takeFromGuests(People people, int[] out) {
            int heads = people.heads();
            int sum = 0;
            for (int i = 0; i < people.many; i++) {
                if (!isIn(heads, i)) {
                    sum += out[i];
                    out[i] = 0;
                }
            }
            return sum;
        }

        void lookForSets(int amount) {
            sets = 0;
            fewest = 0;
            leastSet = 0;
            rests[many] = 0;
            for (int i = many - 1; i >= 0; i--) {
                rests[i] = rests[i + 1] + prices[i];
            }
            search(this, 0, amount, 0);
        }

        /** One level a DISH; what the DISHES left can't come to is not looked at. */
        private static void search(Bill bill, int dish, int lacks, int set) {
            if (lacks == 0) {
                bill.countSet(set);
            } else if (dish < bill.many && lacks > 0 && lacks <= bill.rests[dish]) {
                search(bill, dish + 1, lacks - bill.prices[dish], set | 1 << dish);
                search(bill, dish + 1, lacks, set);
            }
        }

        private void countSet(int set) {
            int size = Integer.bitCount(set);
            if (sets == 0 || size < fewest || size == fewest && set < leastSet) {
                fewest = size;
                leastSet = set;
            }
            sets++;
        }

        private static void spread(int amount, int set, int[] out) {
            int sharers = Integer.bitCount(set);
            if (sharers == 0) {
                return;
            }
            int each = amount / sharers;
            int left = amount % sharers;
            for (int i = 0; i < out.length; i++) {
                if (isIn(set, i)) {
                    out[i] += left > 0 ? each + 1 : each;
                    left--;
                }
            }
        }
    }

    /** Who OWES whom: the row's person the column's. */
    private static final class Debts {
        private final int[] owed = new int[MOST_PEOPLE * MOST_PEOPLE];
        private final int[] balances = new int[MOST_PEOPLE];
        private final int[] groups = new int[1 << MOST_PEOPLE];

        void clear() {
            Arrays.fill(owed, 0);
        }

        void copyFrom(Debts other) {
            copyRow(other.owed, owed);
        }

        int get(int a, int b) {
            return owed[a * MOST_PEOPLE + b];
        }

        void put(int a, int b, int much) {
            owed[a * MOST_PEOPLE + b] = much;
        }

        boolean canAdd(int a, int b, int much) {
            return owed[a * MOST_PEOPLE + b] <= MOST_OWED - much;
        }

        boolean add(int a, int b, int much) {
            if (!canAdd(a, b, much)) {
                return false;
            }
            put(a, b, get(a, b) + much);
            return true;
        }

        void lower(int a, int b, int much) {
            put(a, b, Math.max(0, get(a, b) - much));
        }

        int balanceOf(int person) {
            int sum = 0;
            for (int other = 0; other < MOST_PEOPLE; other++) {
                sum += owed[other * MOST_PEOPLE + person] - owed[person * MOST_PEOPLE + other];
            }
            return sum;
        }

        int[] weigh() {
            for (int i = 0; i < MOST_PEOPLE; i++) {
                balances[i] = balanceOf(i);
            }
            return balances;
        }

        /** A group whose BALANCES are 0 together needs one paying less than it has PEOPLE. */
        int fewestPayings(int people) {
            weigh();
            int sets = 1 << people;
            groups[0] = 0;
            for (int set = 1; set < sets; set++) {
                int most = 0;
                int sum = 0;
                for (int i = 0; i < people; i++) {
                    if (isIn(set, i)) {
                        most = Math.max(most, groups[set ^ 1 << i]);
                        sum += balances[i];
                    }
                }
                groups[set] = sum == 0 ? most + 1 : most;
            }
            return people - groups[sets - 1];
        }

        /** These debts become what settles the others' BALANCES; false if one would OWE too much. */
        boolean settles(int[] weighed, int people) {
            clear();
            for (int i = 0; i < MOST_PEOPLE; i++) {
                int poor = firstLeast(weighed, people);
                int rich = firstGreatest(weighed, people);
                if (poor == NONE || rich == NONE || weighed[rich] <= 0) {
                    return true;
                }
                int much = Math.min(-weighed[poor], weighed[rich]);
                if (much > MOST_OWED) {
                    return false;
                }
                put(poor, rich, much);
                weighed[poor] += much;
                weighed[rich] -= much;
            }
            return true;
        }

        int creditorsOf(int person) {
            int set = 0;
            for (int other = 0; other < MOST_PEOPLE; other++) {
                if (get(person, other) > 0) {
                    set |= 1 << other;
                }
            }
            return set;
        }

        int countTies() {
            int ties = 0;
            for (int a = 0; a < MOST_PEOPLE; a++) {
                for (int b = a + 1; b < MOST_PEOPLE; b++) {
                    if (get(a, b) > 0 || get(b, a) > 0) {
                        ties++;
                    }
                }
            }
            return ties;
        }
    }

    /** The ROUNDS: who is IN, and by how many drinks each is ahead of what he bought for. */
    private static final class Bar {
        int in;
        int rounds;
        final int[] ahead = new int[MOST_PEOPLE];

        void clear() {
            in = 0;
            rounds = 0;
            Arrays.fill(ahead, 0);
        }

        void copyFrom(Bar other) {
            in = other.in;
            rounds = other.rounds;
            copyRow(other.ahead, ahead);
        }

        int buyer() {
            int best = NONE;
            for (int i = 0; i < MOST_PEOPLE; i++) {
                if (isIn(in, i) && (best == NONE || ahead[i] > ahead[best])) {
                    best = i;
                }
            }
            return best;
        }

        int serve() {
            int buyer = buyer();
            if (buyer == NONE) {
                return NONE;
            }
            for (int i = 0; i < MOST_PEOPLE; i++) {
                if (isIn(in, i)) {
                    ahead[i]++;
                    ahead[buyer]--;
                }
            }
            rounds++;
            return buyer;
        }

        boolean isEven() {
            int most = buyer();
            for (int i = 0; i < MOST_PEOPLE && most != NONE; i++) {
                if (isIn(in, i) && ahead[i] != ahead[most]) {
                    return false;
                }
            }
            return true;
        }
    }

    /** The STEPS of a YEAR; each knows the STEP that comes when it, or its block, is over. */
    private static final class Year {
        boolean isThere;
        int many;
        final int[] works = new int[MOST_STEPS];
        final int[] tests = new int[MOST_STEPS];
        final int[] firsts = new int[MOST_STEPS];
        final int[] seconds = new int[MOST_STEPS];
        final int[] signs = new int[MOST_STEPS];
        final int[] numbers = new int[MOST_STEPS];
        final int[] closes = new int[MOST_STEPS];

        void clear() {
            isThere = false;
            many = 0;
        }

        void copyFrom(Year other) {
            isThere = other.isThere;
            many = other.many;
            copyRow(other.works, works);
            copyRow(other.tests, tests);
            copyRow(other.firsts, firsts);
            copyRow(other.seconds, seconds);
            copyRow(other.signs, signs);
            copyRow(other.numbers, numbers);
            copyRow(other.closes, closes);
        }

        /** The caller has looked that there are fewer than the most. */
        int add(int work) {
            int step = many;
            works[step] = work;
            tests[step] = NONE;
            firsts[step] = NONE;
            seconds[step] = NONE;
            signs[step] = 0;
            numbers[step] = 0;
            closes[step] = step + 1;
            many++;
            return step;
        }
    }

    /** All that a MARK keeps. */
    private static final class Table {
        final People people = new People();
        final Bill bill = new Bill();
        final Debts debts = new Debts();
        final Bar bar = new Bar();
        final Year year = new Year();
        int law;
        int gifts;

        void clear() {
            people.clear();
            bill.clear();
            debts.clear();
            bar.clear();
            year.clear();
            law = TURN;
            gifts = 0;
        }

        void copyFrom(Table other) {
            people.copyFrom(other.people);
            bill.copyFrom(other.bill);
            debts.copyFrom(other.debts);
            bar.copyFrom(other.bar);
            year.copyFrom(other.year);
            law = other.law;
            gifts = other.gifts;
        }

        /** False, and nothing is changed, if one would OWE too much. */
        boolean charge(int payer, int[] dues) {
            for (int i = 0; i < people.many; i++) {
                if (i != payer && !debts.canAdd(i, payer, dues[i])) {
                    return false;
                }
            }
            for (int i = 0; i < people.many; i++) {
                if (i != payer) {
                    debts.add(i, payer, dues[i]);
                }
            }
            people.paid[payer]++;
            return true;
        }

        void give(int a, int b, int much) {
            debts.lower(b, a, much);
            gifts++;
        }

        int nextPayer(int by) {
            int heads = people.heads();
            int best = NONE;
            int most = 0;
            for (int i = 0; i < people.many; i++) {
                if (isIn(heads, i)) {
                    int claim = claimOf(i, by);
                    if (best == NONE || claim > most) {
                        best = i;
                        most = claim;
                    }
                }
            }
            return best;
        }

        private int claimOf(int person, int by) {
            switch (by) {
                case OWING:
                    return -debts.balanceOf(person);
                case QUICK:
                    return people.quick[person];
                case INSISTS:
                    return people.insists[person];
                default:
                    return -people.paid[person];
            }
        }

        int regretOf(int person) {
            int others = people.paidByAll() - people.paid[person];
            return people.minds[person] * others - debts.balanceOf(person);
        }

        int fewestDinners(int n) {
            for (int dinners = 0; dinners <= 99; dinners++) {
                if (isEvenBehind(n, dinners)) {
                    return dinners;
                }
            }
            return NONE;
        }

        private boolean isEvenBehind(int n, int dinners) {
            int heads = people.heads();
            int sum = 0;
            for (int i = 0; i < people.many; i++) {
                if (isIn(heads, i)) {
                    int his = dinnersBy(n, dinners, i);
                    if (his == NONE) {
                        return false;
                    }
                    sum += his;
                }
            }
            return sum == dinners;
        }

        /** Each dinner costs a HEAD n, and the one that he pays brings him n of every HEAD. */
        int dinnersBy(int n, int dinners, int person) {
            int brings = n * Integer.bitCount(people.heads());
            int lacks = n * dinners - debts.balanceOf(person);
            return brings > 0 && lacks >= 0 && lacks % brings == 0 ? lacks / brings : NONE;
        }
    }

    /** A YEAR as it is lived, STEP by STEP. */
    private static final class Life {
        static final int TOLD = 5;
        private static final int MOST_SAID = 20;
        private static final int MOST_TURNS = 1_000_000;

        int steps;
        private int missed;
        private int dinners;
        private int said;
        private int rounds;
        private boolean isCut;
        private boolean isStopped;
        private int s;
        private int open;
        private final int[] loops = new int[MOST_NESTED];
        private final int[] again = new int[MOST_NESTED];
        private final int[] dues = new int[MOST_PEOPLE];

        void tellTo(int[] row) {
            row[0] = missed;
            row[1] = dinners;
            row[2] = said;
            row[3] = rounds;
            row[4] = isCut ? 1 : 0;
        }

        void run(Table table, int seed) {
            begin(seed);
            // no STEP changes the DISHES or the SPLIT
            table.bill.fillDues(table.people, table.bill.split, dues);
            Year year = table.year;
            int at = 0;
            for (int i = 0; i < MOST_TURNS && !isStopped; i++) {
                if (open > 0 && at >= year.closes[loops[open - 1]]) {
                    at = leaveOrRepeat(at);
                } else if (at < 0 || at >= year.many) {
                    isStopped = true;
                } else if (steps >= MOST_LIVED) {
                    isCut = true;
                    isStopped = true;
                } else {
                    steps++;
                    at = comeTo(table, at);
                }
            }
        }

        private void begin(int seed) {
            s = seed;
            steps = 0;
            missed = 0;
            dinners = 0;
            said = 0;
            rounds = 0;
            open = 0;
            isCut = false;
            isStopped = false;
        }

        private int leaveOrRepeat(int at) {
            int loop = open - 1;
            if (again[loop] > 0) {
                again[loop]--;
                return loops[loop] + 1;
            }
            open--;
            return at;
        }

        private int comeTo(Table table, int at) {
            Year year = table.year;
            int first = year.firsts[at];
            int second = year.seconds[at];
            switch (year.works[at]) {
                case Reader.DINNER:
                    dine(table, first == NONE ? quickest(table.people) : first);
                    break;
                case Reader.DUEL:
                    dine(table, winner(table.people, first, second));
                    break;
                case Reader.LEND:
                    missUnless(table.debts.add(second, first, year.numbers[at]));
                    break;
                case Reader.GIFT:
                    table.give(first, second, year.numbers[at]);
                    break;
                case Reader.ROUND:
                    drink(table.bar);
                    break;
                case Reader.WHEN:
                    return holds(table, at) ? at + 1 : year.closes[at];
                case Reader.LOOP:
                    enter(at, year.numbers[at]);
                    break;
                default:
                    isStopped = true;
                    break;
            }
            return at + 1;
        }

        private void missUnless(boolean isDone) {
            if (!isDone) {
                missed++;
            }
        }

        private void dine(Table table, int payer) {
            boolean isPaid = payer != NONE && table.charge(payer, dues);
            missUnless(isPaid);
            if (isPaid) {
                dinners++;
            }
        }

        private void drink(Bar bar) {
            boolean isServed = bar.serve() != NONE;
            missUnless(isServed);
            if (isServed) {
                rounds++;
            }
        }

        private void enter(int at, int times) {
            if (open < MOST_NESTED) {
                loops[open] = at;
                again[open] = times - 1;
                open++;
            }
        }

        private int draw(int n) {
            s = (s * 2_917 + 11_119) % 65_536;
            return n > 0 ? s / 8 % n : 0;
        }

        private int quickest(People people) {
            int all = people.quickOf(people.everyone());
            if (all == 0) {
                return NONE;
            }
            int left = draw(all);
            for (int i = 0; i < people.many; i++) {
                left -= people.quick[i];
                if (left < 0) {
                    return i;
                }
            }
            return NONE;
        }

        private int winner(People people, int a, int b) {
            int goes = a;
            int waits = b;
            for (int i = 0; i < MOST_SAID; i++) {
                said++;
                if (draw(SURE) >= people.insists[goes]) {
                    return waits;
                }
                int swap = goes;
                goes = waits;
                waits = swap;
            }
            return waits;
        }

        private boolean holds(Table table, int at) {
            Year year = table.year;
            int first = year.firsts[at];
            if (year.tests[at] == Reader.TURN_WORD) {
                return table.nextPayer(table.law) == first;
            }
            boolean isPaid = year.tests[at] == Reader.PAID;
            int value = isPaid ? table.people.paid[first] : table.debts.get(first, year.seconds[at]);
            switch (year.signs[at]) {
                case '<':
                    return value < year.numbers[at];
                case '>':
                    return value > year.numbers[at];
                default:
                    return value == year.numbers[at];
            }
        }
    }

    /** Goes along a text TOKEN by TOKEN, and keeps the first FAULT. */
    private static final class Reader {
        static final int PERSON = 0;
        static final int INSISTS_WORD = 1;
        static final int QUICK_WORD = 2;
        static final int MINDS = 3;
        static final int MEANS = 4;
        static final int GUEST = 5;
        static final int COUPLE = 6;
        static final int DISH = 7;
        static final int BY = 8;
        static final int OWES = 9;
        static final int SPLIT = 10;
        static final int HEADS_WORD = 11;
        static final int EATEN_WORD = 12;
        static final int COUPLES_WORD = 13;
        static final int LAW = 14;
        static final int TURN_WORD = 15;
        static final int OWING_WORD = 16;
        static final int DINNER = 17;
        static final int DUEL = 18;
        static final int LEND = 19;
        static final int GIFT = 20;
        static final int ROUND = 21;
        static final int WITH = 22;
        static final int TO = 23;
        static final int WHEN = 24;
        static final int PAID = 25;
        static final int LOOP = 26;
        static final int END = 27;
        static final int STOP = 28;

        static final int NO_TOKEN = 1;
        static final int CANNOT_STAND = 2;
        static final int WRONG_NAME = 3;
        static final int CANNOT_COUNT = 4;
        static final int TWICE = 5;
        static final int BEYOND = 6;
        static final int TOO_DEEP = 7;

        private static final int AT_END = 0;
        private static final int WORD = 1;
        private static final int NUMBER = 2;
        private static final int SIGN = 3;
        private static final int STRANGE = 4;
        private static final int BLANK = 5;

        private static final int KEYWORDS = 29;
        private static final int LONGEST_NAME = 8;
        private static final int MOST_DIGITS = 4;
        private static final String SPELLINGS = "person insists quick minds means guest couple dish by owes split heads eaten couples law turn owing dinner duel lend gift round with to when paid loop end stop ";

        int faultKind;
        int faultPlace;
        /** The WORD that stands here, of those that are no NAMES, or NONE. */
        int keyword;
        private final byte[] text;
        private int length;
        private int next;
        private int sort;
        private int start;
        private int value;
        private long letters;
        private final long[] keywords = new long[KEYWORDS];

        Reader(byte[] text) {
            this.text = text;
            int word = 0;
            for (int i = 0; i < SPELLINGS.length() && word < KEYWORDS; i++) {
                char letter = SPELLINGS.charAt(i);
                if (letter == ' ') {
                    word++;
                } else {
                    keywords[word] = withLetter(keywords[word], letter);
                }
            }
        }

        void open(int many) {
            length = Math.min(many, text.length);
            next = 0;
            faultKind = 0;
            faultPlace = NONE;
            advance();
        }

        boolean isOver() {
            return sort == AT_END;
        }

        boolean isSign(char sign) {
            return sort == SIGN && value == sign;
        }

        boolean isName() {
            return sort == WORD && keyword == NONE && next - start <= LONGEST_NAME;
        }

        long nameHere() {
            return letters;
        }

        int signHere() {
            return sort == SIGN ? value : 0;
        }

        boolean fail(int kind) {
            faultKind = sort == STRANGE ? NO_TOKEN : kind;
            faultPlace = start;
            return false;
        }

        boolean takes(int word) {
            if (keyword != word) {
                return fail(CANNOT_STAND);
            }
            advance();
            return true;
        }

        boolean takesSemicolon() {
            if (!isSign(';')) {
                return fail(CANNOT_STAND);
            }
            advance();
            return true;
        }

        /** NONE, and a FAULT, if no such NUMBER stands here. */
        int takeNumber(int least, int most) {
            if (sort != NUMBER) {
                fail(CANNOT_STAND);
                return NONE;
            }
            if (value < least || value > most) {
                fail(CANNOT_COUNT);
                return NONE;
            }
            int taken = value;
            advance();
            return taken;
        }

        /** Stays at the NAME, as more may be wrong with it; NONE, and a FAULT, if it is nobody's. */
        int personHere(People people) {
            if (!isName()) {
                fail(CANNOT_STAND);
                return NONE;
            }
            int person = people.find(letters);
            if (person == NONE) {
                fail(WRONG_NAME);
            }
            return person;
        }

        int takePerson(People people) {
            int person = personHere(people);
            if (person != NONE) {
                advance();
            }
            return person;
        }

        int takeOther(People people, int first) {
            int person = personHere(people);
            if (person == NONE) {
                return NONE;
            }
            if (person == first) {
                fail(TWICE);
                return NONE;
            }
            advance();
            return person;
        }

        /** Only looks what stands next: what is wrong with it is a FAULT when it is come to. */
        void advance() {
            while (next < length && sortOf(text[next]) == BLANK) {
                next++;
            }
            start = next;
            letters = 0;
            value = 0;
            sort = next < length ? sortOf(text[next]) : AT_END;
            if (sort == SIGN) {
                value = text[next];
                next++;
            }
            while (next < length && (sort == WORD || sort == NUMBER) && sortOf(text[next]) == sort) {
                letters = withLetter(letters, text[next]);
                value = value * 10 + (text[next] - '0');
                next++;
            }
            keyword = keywordHere();
            if (sort == NUMBER && next - start > MOST_DIGITS) {
                sort = STRANGE;
            }
        }

        private int keywordHere() {
            // a longer one has wrapped round, and could look like any
            boolean canBe = sort == WORD && next - start <= LONGEST_NAME;
            for (int i = 0; i < KEYWORDS && canBe; i++) {
                if (keywords[i] == letters) {
                    return i;
                }
            }
            return NONE;
        }

        private static int sortOf(byte sign) {
            if (sign >= 'a' && sign <= 'z') {
                return WORD;
            }
            if (sign >= '0' && sign <= '9') {
                return NUMBER;
            }
            if (sign == ' ' || sign == '\n') {
                return BLANK;
            }
            return sign == ';' || sign == '<' || sign == '>' || sign == '=' ? SIGN : STRANGE;
        }

        /** Five bits a letter, none of which is 0: no two short WORDS are the same number. */
        private static long withLetter(long before, int letter) {
            return before * 32 + (letter - 'a' + 1);
        }
    }

    /** The grammar of a TABLE. */
    private static final class TableText {
        private final Reader reader;
        private final Table table;
        private boolean hasSplit;
        private boolean hasLaw;

        TableText(Reader reader, Table table) {
            this.reader = reader;
            this.table = table;
        }

        boolean isTaken() {
            boolean isGood = true;
            for (int i = 0; i < MOST_TAPE && isGood && !reader.isOver(); i++) {
                switch (reader.keyword) {
                    case Reader.PERSON:
                        isGood = takesNewcomer();
                        break;
                    case Reader.COUPLE:
                        isGood = takesCouple();
                        break;
                    case Reader.DISH:
                        isGood = takesDish();
                        break;
                    case Reader.OWES:
                        isGood = takesDebt();
                        break;
                    case Reader.SPLIT:
                        isGood = takesSplit();
                        break;
                    case Reader.LAW:
                        isGood = takesLaw();
                        break;
                    default:
                        isGood = reader.fail(Reader.CANNOT_STAND);
                        break;
                }
                isGood = isGood && reader.takesSemicolon();
            }
            table.bar.in = table.people.everyone();
            return isGood;
        }

        private boolean takesNewcomer() {
            People people = table.people;
            if (people.many >= MOST_PEOPLE) {
                return reader.fail(Reader.BEYOND);
            }
            reader.advance();
            if (!reader.isName()) {
                return reader.fail(Reader.CANNOT_STAND);
            }
            if (people.find(reader.nameHere()) != NONE) {
                return reader.fail(Reader.WRONG_NAME);
            }
            int person = people.add(reader.nameHere());
            reader.advance();
            return takesTrait(Reader.INSISTS_WORD, people.insists, person, SURE, 0)
                && takesTrait(Reader.QUICK_WORD, people.quick, person, 20, 1)
                && takesTrait(Reader.MINDS, people.minds, person, 99, 0)
                && takesTrait(Reader.MEANS, people.means, person, 999, 999)
                && takesGuest(person);
        }

        private boolean takesTrait(int word, int[] row, int person, int most, int without) {
            row[person] = without;
            if (reader.keyword != word) {
                return true;
            }
            reader.advance();
            int number = reader.takeNumber(0, most);
            if (number == NONE) {
                return false;
            }
            row[person] = number;
            return true;
        }

        private boolean takesGuest(int person) {
            if (reader.keyword == Reader.GUEST) {
                table.people.guests |= 1 << person;
                reader.advance();
            }
            return true;
        }

        private boolean takesCouple() {
            People people = table.people;
            if (people.couples >= MOST_COUPLES) {
                return reader.fail(Reader.BEYOND);
            }
            reader.advance();
            int first = reader.personHere(people);
            if (first == NONE) {
                return false;
            }
            if (people.partner[first] != NONE) {
                return reader.fail(Reader.TWICE);
            }
            reader.advance();
            int second = reader.personHere(people);
            if (second == NONE) {
                return false;
            }
            if (second == first || people.partner[second] != NONE) {
                return reader.fail(Reader.TWICE);
            }
            reader.advance();
            people.join(first, second);
            return true;
        }

        private boolean takesDish() {
            if (table.bill.many >= MOST_DISHES) {
                return reader.fail(Reader.BEYOND);
            }
            reader.advance();
            int price = reader.takeNumber(1, Bill.DEAREST);
            if (price == NONE) {
                return false;
            }
            int eater = NONE;
            if (reader.keyword == Reader.BY) {
                reader.advance();
                eater = reader.takePerson(table.people);
                if (eater == NONE) {
                    return false;
                }
            }
            table.bill.add(price, eater);
            return true;
        }

        private boolean takesDebt() {
            reader.advance();
            int first = reader.takePerson(table.people);
            if (first == NONE) {
                return false;
            }
            int second = reader.takeOther(table.people, first);
            if (second == NONE) {
                return false;
            }
            int much = reader.takeNumber(0, 9_999);
            if (much == NONE) {
                return false;
            }
            table.debts.put(first, second, much);
            return true;
        }

        private boolean takesSplit() {
            if (hasSplit) {
                return reader.fail(Reader.TWICE);
            }
            hasSplit = true;
            reader.advance();
            switch (reader.keyword) {
                case Reader.HEADS_WORD:
                    table.bill.split = HEADS;
                    break;
                case Reader.EATEN_WORD:
                    table.bill.split = EATEN;
                    break;
                case Reader.COUPLES_WORD:
                    table.bill.split = COUPLES;
                    break;
                default:
                    return reader.fail(Reader.CANNOT_STAND);
            }
            reader.advance();
            return true;
        }

        private boolean takesLaw() {
            if (hasLaw) {
                return reader.fail(Reader.TWICE);
            }
            hasLaw = true;
            reader.advance();
            switch (reader.keyword) {
                case Reader.TURN_WORD:
                    table.law = TURN;
                    break;
                case Reader.OWING_WORD:
                    table.law = OWING;
                    break;
                case Reader.QUICK_WORD:
                    table.law = QUICK;
                    break;
                case Reader.INSISTS_WORD:
                    table.law = INSISTS;
                    break;
                default:
                    return reader.fail(Reader.CANNOT_STAND);
            }
            reader.advance();
            return true;
        }
    }

    /** The grammar of a YEAR. */
    private static final class YearText {
        private final Reader reader;
        private final People people;
        private final Year year;
        private final int[] blocks = new int[MOST_NESTED];
        private int open;
        private int step;

        YearText(Reader reader, People people, Year year) {
            this.reader = reader;
            this.people = people;
            this.year = year;
        }

        boolean isTaken() {
            boolean isGood = true;
            for (int i = 0; i < MOST_YEAR_TEXT && isGood && !reader.isOver(); i++) {
                isGood = reader.keyword == Reader.END ? takesEnd() : beginsStep() && (isTest() ? takesTest() : takesRest());
                isGood = isGood && reader.takesSemicolon();
            }
            if (isGood && open > 0) {
                isGood = reader.fail(Reader.CANNOT_STAND);
            }
            year.isThere = isGood;
            return isGood;
        }

        private boolean takesEnd() {
            if (open == 0) {
                return reader.fail(Reader.CANNOT_STAND);
            }
            open--;
            year.closes[blocks[open]] = year.many;
            reader.advance();
            return true;
        }

        private boolean beginsStep() {
            int work = reader.keyword;
            if (!isWork(work)) {
                return reader.fail(Reader.CANNOT_STAND);
            }
            if (year.many >= MOST_STEPS) {
                return reader.fail(Reader.BEYOND);
            }
            boolean isBlock = work == Reader.WHEN || work == Reader.LOOP;
            if (isBlock && open >= MOST_NESTED) {
                return reader.fail(Reader.TOO_DEEP);
            }
            step = year.add(work);
            if (isBlock) {
                blocks[open] = step;
                open++;
            }
            reader.advance();
            return true;
        }

        private static boolean isWork(int word) {
            return word >= Reader.DINNER && word <= Reader.ROUND
                || word == Reader.WHEN || word == Reader.LOOP || word == Reader.STOP;
        }

        private boolean isTest() {
            return year.works[step] == Reader.WHEN;
        }

        private boolean takesRest() {
            switch (year.works[step]) {
                case Reader.DINNER:
                    return takesPayer();
                case Reader.DUEL:
                    return takesTwo(Reader.WITH);
                case Reader.LEND:
                case Reader.GIFT:
                    return takesTwo(Reader.TO) && takesCount(1, 999);
                case Reader.LOOP:
                    return takesCount(1, 99);
                default:
                    return true;
            }
        }

        private boolean takesPayer() {
            if (reader.keyword != Reader.BY) {
                return true;
            }
            reader.advance();
            year.firsts[step] = reader.takePerson(people);
            return year.firsts[step] != NONE;
        }

        /** Two NAMES, with a WORD between them, or without (NONE). */
        private boolean takesTwo(int between) {
            int first = reader.takePerson(people);
            if (first == NONE || between != NONE && !reader.takes(between)) {
                return false;
            }
            year.firsts[step] = first;
            year.seconds[step] = reader.takeOther(people, first);
            return year.seconds[step] != NONE;
        }

        private boolean takesCount(int least, int most) {
            year.numbers[step] = reader.takeNumber(least, most);
            return year.numbers[step] != NONE;
        }

        private boolean takesTest() {
            int test = reader.keyword;
            if (test != Reader.PAID && test != Reader.OWES && test != Reader.TURN_WORD) {
                return reader.fail(Reader.CANNOT_STAND);
            }
            year.tests[step] = test;
            reader.advance();
            if (test == Reader.OWES) {
                return takesTwo(NONE) && takesCompare() && takesCount(0, 9_999);
            }
            year.firsts[step] = reader.takePerson(people);
            if (year.firsts[step] == NONE) {
                return false;
            }
            return test == Reader.TURN_WORD || takesCompare() && takesCount(0, 999);
        }

        private boolean takesCompare() {
            int sign = reader.signHere();
            if (sign != '<' && sign != '>' && sign != '=') {
                return reader.fail(Reader.CANNOT_STAND);
            }
            year.signs[step] = sign;
            reader.advance();
            return true;
        }
    }
}
