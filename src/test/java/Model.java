import java.math.BigInteger;
import java.util.ArrayDeque;
import java.util.ArrayList;
import java.util.Arrays;
import java.util.Deque;
import java.util.List;
import java.util.function.IntPredicate;

/**
 * The document once more, in the plainest way: pennies are dealt one by one, ODDS are solved as chains of FRACTIONS,
 * sets are all gone through, a YEAR is a tree. A refused call is an exception, and all is as it was ahead of it.
 */
final class Model {
    private static final int MOST_OWED = 999_999;
    private static final int COMMON = -1;

    int status;
    BigInteger top = BigInteger.ZERO;
    BigInteger bottom = BigInteger.ONE;
    private final StringBuilder tape = new StringBuilder();
    private final long[][] trays = new long[4][];
    private final int[] sorts = new int[4];
    private int faultKind = LetMe.NONE;
    private int faultPlace = LetMe.NONE;
    private int[] lived;
    private State now = new State();
    private final Deque<State> marks = new ArrayDeque<>();

    private static final class Refusal extends RuntimeException {
        private static final long serialVersionUID = 1L;
        private final int status;

        private Refusal(int status) {
            super(null, null, false, false);
            this.status = status;
        }
    }

    private static void need(boolean isSo, int status) {
        if (!isSo) {
            throw new Refusal(status);
        }
    }

    private static boolean within(long v, long least, long most) {
        return least <= v && v <= most;
    }

    /** All that a MARK keeps. */
    private static final class State {
        List<String> names = List.of();
        /** INSISTS, QUICK, MINDS, MEANS, GUEST, the other one of the COUPLE. */
        List<int[]> people = List.of();
        /** The price, who had it. */
        List<int[]> dishes = new ArrayList<>();
        int couples;
        int[][] owes = new int[6][6];
        int split;
        int law;
        int[] paid = new int[6];
        boolean[] in = new boolean[6];
        int[] had = new int[6];
        int[] bought = new int[6];
        int rounds;
        int gifts;
        String year;

        State copy() {
            State other = new State();
            other.names = names;
            other.people = people;
            other.dishes = new ArrayList<>(dishes);
            other.couples = couples;
            other.owes = Arrays.stream(owes).map(int[]::clone).toArray(int[][]::new);
            other.split = split;
            other.law = law;
            other.paid = paid.clone();
            other.in = in.clone();
            other.had = had.clone();
            other.bought = bought.clone();
            other.rounds = rounds;
            other.gifts = gifts;
            other.year = year;
            return other;
        }

        int many() {
            return people.size();
        }

        boolean isGuest(int i) {
            return people.get(i)[4] == 1;
        }

        List<Integer> those(IntPredicate which) {
            List<Integer> all = new ArrayList<>();
            for (int i = 0; i < many(); i++) {
                if (which.test(i)) {
                    all.add(i);
                }
            }
            return all;
        }

        List<Integer> heads() {
            List<Integer> all = those(i -> !isGuest(i));
            return all.isEmpty() ? those(i -> true) : all;
        }

        static void deal(int amount, List<Integer> among, int[] to) {
            for (int penny = 0; penny < amount && !among.isEmpty(); penny++) {
                to[among.get(penny % among.size())]++;
            }
        }

        int bill() {
            return dishes.stream().mapToInt(dish -> dish[0]).sum();
        }

        int[] eaten() {
            int[] all = new int[6];
            deal(dishes.stream().filter(dish -> dish[1] == COMMON).mapToInt(dish -> dish[0]).sum(), those(i -> true), all);
            for (int[] dish : dishes) {
                if (dish[1] != COMMON) {
                    all[dish[1]] += dish[0];
                }
            }
            return all;
        }

        int[] dues(int by) {
            int[] all = new int[6];
            List<Integer> heads = heads();
            if (by == 0) {
                deal(bill(), heads, all);
            } else if (by == 2) {
                List<Integer> payers = new ArrayList<>(heads);
                for (int i : heads) {
                    int other = people.get(i)[5];
                    if (other > i && heads.contains(other)) {
                        payers.remove((Integer) other);
                    }
                }
                deal(bill(), payers, all);
            } else {
                int[] eaten = eaten();
                int byGuests = 0;
                for (int i = 0; i < many(); i++) {
                    if (heads.contains(i)) {
                        all[i] = eaten[i];
                    } else {
                        byGuests += eaten[i];
                    }
                }
                deal(byGuests, heads, all);
            }
            return all;
        }

        int unfair(int by) {
            int[] dues = dues(by);
            int[] eaten = eaten();
            int sum = 0;
            for (int i = 0; i < many(); i++) {
                sum += Math.abs(dues[i] - eaten[i]);
            }
            return sum;
        }

        int balance(int person) {
            int sum = 0;
            for (int i = 0; i < 6; i++) {
                sum += owes[i][person];
                sum -= owes[person][i];
            }
            return sum;
        }

        boolean pays(int person) {
            int[] dues = dues(split);
            int[][] then = Arrays.stream(owes).map(int[]::clone).toArray(int[][]::new);
            for (int i = 0; i < many(); i++) {
                if (i != person) {
                    then[i][person] += dues[i];
                    if (then[i][person] > MOST_OWED) {
                        return false;
                    }
                }
            }
            owes = then;
            paid[person]++;
            return true;
        }

        /** COMMON for nobody. */
        int turn(int by) {
            List<Integer> order = new ArrayList<>(heads());
            order.sort((a, b) -> switch (by) {
                case 0 -> Integer.compare(paid[a], paid[b]);
                case 1 -> Integer.compare(balance(a), balance(b));
                case 2 -> Integer.compare(people.get(b)[1], people.get(a)[1]);
                default -> Integer.compare(people.get(b)[0], people.get(a)[0]);
            });
            return order.isEmpty() ? LetMe.NONE : order.get(0);
        }

        int regret(int person) {
            int others = Arrays.stream(paid).sum() - paid[person];
            return people.get(person)[2] * others - balance(person);
        }

        int buyer() {
            int who = LetMe.NONE;
            for (int i = many() - 1; i >= 0; i--) {
                if (in[i] && (who < 0 || had[i] - bought[i] >= had[who] - bought[who])) {
                    who = i;
                }
            }
            return who;
        }

        int round() {
            int who = buyer();
            if (who >= 0) {
                rounds++;
                for (int i = 0; i < many(); i++) {
                    if (in[i]) {
                        had[i]++;
                        bought[who]++;
                    }
                }
            }
            return who;
        }

        boolean areDrinksEven() {
            return those(i -> in[i]).stream().map(i -> had[i] - bought[i]).distinct().count() == 1;
        }

        /** How often each of the HEADS must pay; null if it can't be by so many. */
        int[] even(int n, int dinners) {
            int[] all = new int[6];
            int sum = 0;
            for (int i : heads()) {
                int times = 0;
                int gets = n * (heads().size() - 1);
                while (times <= dinners && balance(i) + times * gets - (dinners - times) * n != 0) {
                    times++;
                }
                if (times > dinners) {
                    return null;
                }
                all[i] = times;
                sum += times;
            }
            return sum == dinners ? all : null;
        }

        int[] even(int n) {
            for (int dinners = 0; dinners <= 99; dinners++) {
                int[] all = even(n, dinners);
                if (all != null) {
                    int[] told = Arrays.copyOf(all, 7);
                    told[6] = dinners;
                    return told;
                }
            }
            throw new Refusal(6);
        }

        int settle() {
            int[] balances = new int[many()];
            for (int i = 0; i < many(); i++) {
                balances[i] = balance(i);
            }
            return fewest(balances, 0);
        }

        /** The first one who is not quits is paid or pays all of it, with one of those behind. */
        private static int fewest(int[] balances, int from) {
            int i = from;
            while (i < balances.length && balances[i] == 0) {
                i++;
            }
            if (i == balances.length) {
                return 0;
            }
            int best = 99;
            for (int j = i + 1; j < balances.length; j++) {
                if (balances[j] != 0) {
                    int[] then = balances.clone();
                    then[j] += then[i];
                    then[i] = 0;
                    best = Math.min(best, 1 + fewest(then, i));
                }
            }
            return best;
        }

        int ties() {
            int ties = 0;
            for (int a = 0; a < 6; a++) {
                for (int b = 0; b < a; b++) {
                    ties += owes[a][b] + owes[b][a] > 0 ? 1 : 0;
                }
            }
            return ties;
        }
    }

    int people() {
        return now.many();
    }

    int onTape() {
        return tape.length();
    }

    // ---- the calls

    /** A boolean is 1 or 0. */
    long call(String name, long... v) {
        int[] a = Arrays.stream(v).mapToInt(x -> (int) x).toArray();
        switch (name) {
            case "status":
                return status;
            case "top":
                return top.longValueExact();
            case "bottom":
                return bottom.longValueExact();
            case "feed":
                return feed(a);
            case "fault":
                return a[0] == 0 ? faultKind : a[0] == 1 ? faultPlace : LetMe.NONE;
            default:
        }
        boolean isYesOrNo = List.of("tray", "write", "pour", "split", "law", "duel", "goes", "trio", "reach", "mean").contains(name);
        State before = now.copy();
        long answer;
        try {
            answer = answer(name, a, v);
            status = 0;
        } catch (Refusal refusal) {
            answer = isYesOrNo ? 0 : LetMe.NONE;
            status = refusal.status;
            now = before;
        }
        return answer;
    }

    private int feed(int[] four) {
        if (tape.length() + 20 > 900) {
            return LetMe.NONE;
        }
        for (int each : four) {
            for (int i = 0; i < 4; i++) {
                tape.append((char) (each >>> 24 - 8 * i & 255));
            }
        }
        return tape.length();
    }

    private long answer(String name, int[] a, long[] v) {
        return switch (name) {
            case "tray", "write", "read", "pour", "receipts", "remembers" -> ofTrays(name, a, v);
            case "table", "year", "told", "person", "dish" -> ofTexts(name, a);
            case "eaten", "due", "unfair", "fairest", "dearer", "hardest", "order", "strike", "split", "law", "second", "padded" -> ofTheBill(name, a);
            case "pay", "turn", "turnBy", "duel", "goes", "trio", "reach", "easyOn", "regret", "sorest" -> ofWhoPays(name, a);
            case "owes", "lend", "balance", "quits", "settle", "ties", "extreme", "simplify", "chain", "even", "evenBy" -> ofWhoOwes(name, a);
            case "comes", "buys", "round", "drinks", "evenRounds" -> ofRounds(name, a);
            case "giftAt", "ends", "wasted", "gift" -> ofGifts(name, a);
            default -> ofYearsAndMarks(name, a);
        };
    }

    private void person(int... all) {
        for (int i = 0; i < all.length; i++) {
            need(within(all[i], 0, now.many() - 1), 1);
            for (int j = 0; j < i; j++) {
                need(all[i] != all[j], 1);
            }
        }
    }

    private static int any(int v) {
        need(v != LetMe.NONE, 6);
        return v;
    }

    private long tell(BigInteger over, BigInteger under) {
        BigInteger divisor = over.gcd(under);
        top = over.divide(divisor);
        bottom = under.divide(divisor);
        return 1;
    }

    private long tell(long over, long under) {
        return tell(BigInteger.valueOf(over), BigInteger.valueOf(under));
    }

    private long tell(BigInteger[] fraction) {
        return tell(fraction[0], fraction[1]);
    }

    private static long cut(int sort, long v) {
        int bits = 8 << sort;
        return v << 64 - bits >> 64 - bits;
    }

    private long ofTrays(String name, int[] a, long[] v) {
        need(within(a[0], 0, 3), 1);
        switch (name) {
            case "tray":
                need(within(a[1], 0, 3) && within(a[2], 0, 60), 1);
                trays[a[0]] = new long[a[2]];
                sorts[a[0]] = a[1];
                return 1;
            case "write", "read":
                need(trays[a[0]] != null, 2);
                need(within(a[1], 0, trays[a[0]].length - 1), 3);
                if (name.equals("read")) {
                    return trays[a[0]][a[1]];
                }
                trays[a[0]][a[1]] = cut(sorts[a[0]], v[2]);
                return 1;
            case "pour":
                need(within(a[2], 0, 3) && a[1] >= 0 && a[3] >= 0 && a[4] >= 0, 1);
                need(trays[a[0]] != null && trays[a[2]] != null, 2);
                need(sorts[a[0]] == sorts[a[2]], 8);
                need(v[1] + v[4] <= trays[a[0]].length && v[3] + v[4] <= trays[a[2]].length, 3);
                long[] were = trays[a[0]].clone();
                for (int i = 0; i < a[4]; i++) {
                    trays[a[2]][a[3] + i] = were[a[1] + i];
                }
                return 1;
            case "receipts":
                return receipts(a[0], a[1], a[2], a[3]);
            default:
                return remembers(a[0]);
        }
    }

    private int receipts(int from, int dinners, int n, int to) {
        need(within(to, 0, 3) && within(n, 1, 999) && dinners >= 0 && !now.heads().isEmpty(), 1);
        need(trays[from] != null && trays[to] != null, 2);
        need(dinners <= trays[from].length && now.many() <= trays[to].length, 3);
        int[][] owed = new int[6][6];
        for (int i = 0; i < dinners; i++) {
            need(within(trays[from][i], 0, now.many() - 1), 5);
            for (int head : now.heads()) {
                owed[head][(int) trays[from][i]] += n;
            }
        }
        for (int i = 0; i < now.many(); i++) {
            long balance = 0;
            for (int j = 0; j < now.many(); j++) {
                balance += owed[j][i] - owed[i][j];
            }
            trays[to][i] = cut(sorts[to], balance);
        }
        return now.many();
    }

    private int remembers(int tray) {
        need(trays[tray] != null, 2);
        need(now.many() <= trays[tray].length, 3);
        for (int i = 0; i < now.many(); i++) {
            need(within(trays[tray][i], -9_999_999, 9_999_999), 5);
        }
        int who = LetMe.NONE;
        long most = 0;
        for (int i = 0; i < now.many(); i++) {
            long off = Math.abs(trays[tray][i] - now.balance(i));
            if (off > most) {
                most = off;
                who = i;
            }
        }
        return any(who);
    }

    private String takeTape(int n, int most) {
        need(within(n, 0, Math.min(most, tape.length())), 1);
        String text = tape.substring(0, n);
        tape.setLength(0);
        return text;
    }

    private void hear(TextModel read) {
        faultKind = read.kind;
        faultPlace = read.place;
        need(read.kind == 0, 9);
    }

    private long ofTexts(String name, int[] a) {
        switch (name) {
            case "table":
                TextModel table = TextModel.ofTable(takeTape(a[0], 900));
                hear(table);
                now = new State();
                now.names = table.names;
                now.people = table.people;
                now.dishes.addAll(table.dishes);
                now.couples = table.couples;
                now.split = table.split;
                now.law = table.law;
                now.owes = table.owes;
                Arrays.fill(now.in, 0, now.many(), true);
                return now.many();
            case "year":
                String text = takeTape(a[0], 300);
                TextModel year = TextModel.ofYear(text, now.names);
                hear(year);
                now.year = text;
                return year.steps;
            case "told":
                return told(a[0]);
            case "person":
                person(a[0]);
                need(within(a[1], 0, 5), 1);
                return a[1] == 5 ? now.paid[a[0]] : a[1] == 4 ? any(now.people.get(a[0])[5]) : now.people.get(a[0])[a[1]];
            default:
                need(within(a[0], 0, now.dishes.size() - 1) && within(a[1], 0, 1), 1);
                return any(now.dishes.get(a[0])[a[1]]);
        }
    }

    private static int set(List<Integer> all) {
        return all.stream().mapToInt(i -> 1 << i).sum();
    }

    private int told(int what) {
        return switch (what) {
            case 0 -> now.many();
            case 1 -> now.couples;
            case 2 -> now.dishes.size();
            case 3 -> now.split;
            case 4 -> now.law;
            case 5 -> now.bill();
            case 6 -> now.heads().size();
            case 7 -> Arrays.stream(now.paid).sum();
            case 8 -> now.rounds;
            case 9 -> now.gifts;
            case 10 -> set(now.those(now::isGuest));
            case 11 -> set(now.those(i -> now.in[i]));
            default -> throw new Refusal(1);
        };
    }

    private static void isSplit(int split) {
        need(within(split, 0, 2), 1);
    }

    private static int firstMost(int many, int[] row) {
        int who = LetMe.NONE;
        for (int i = many - 1; i >= 0; i--) {
            who = who < 0 || row[i] >= row[who] ? i : who;
        }
        return who;
    }

    private long ofTheBill(String name, int[] a) {
        switch (name) {
            case "eaten":
                person(a[0]);
                return now.eaten()[a[0]];
            case "due":
                person(a[0]);
                isSplit(a[1]);
                return now.dues(a[1])[a[0]];
            case "unfair":
                isSplit(a[0]);
                return now.unfair(a[0]);
            case "fairest":
                return firstMost(3, new int[] {-now.unfair(0), -now.unfair(1), -now.unfair(2)});
            case "dearer":
                person(a[0]);
                isSplit(a[1]);
                isSplit(a[2]);
                return now.dues(a[1])[a[0]] - now.dues(a[2])[a[0]];
            case "hardest":
                isSplit(a[0]);
                return any(firstMost(now.many(), now.dues(a[0])));
            case "order":
                need(within(a[0], 1, 999) && within(a[1], COMMON, now.many() - 1), 1);
                need(now.dishes.size() < 16, 4);
                now.dishes.add(new int[] {a[0], a[1]});
                return now.dishes.size();
            case "strike":
                need(!now.dishes.isEmpty(), 6);
                return now.dishes.remove(now.dishes.size() - 1)[0];
            case "split":
                isSplit(a[0]);
                now.split = a[0];
                return 1;
            case "law":
                need(within(a[0], 0, 3), 1);
                now.law = a[0];
                return 1;
            case "second":
                return second(a[0], a[1]);
            default:
                need(within(a[0], 0, 99_999), 1);
                return a[0] - now.bill();
        }
    }

    private int second(int amount, int what) {
        need(within(amount, 1, 9_999) && within(what, 0, 2), 1);
        int sets = 0;
        int least = 0;
        for (int set = 1; set < 1 << now.dishes.size(); set++) {
            int sum = 0;
            for (int i = 0; i < now.dishes.size(); i++) {
                sum += (set >> i & 1) * now.dishes.get(i)[0];
            }
            if (sum == amount) {
                sets++;
                // sets come from the least on
                least = least == 0 || Integer.bitCount(set) < Integer.bitCount(least) ? set : least;
            }
        }
        need(sets > 0, 6);
        return what == 0 ? Integer.bitCount(least) : what == 1 ? sets : least;
    }

    private int insists(int person) {
        return now.people.get(person)[0];
    }

    private long ofWhoPays(String name, int[] a) {
        switch (name) {
            case "pay":
                person(a[0]);
                need(now.pays(a[0]), 7);
                return now.paid[a[0]];
            case "turn":
                return any(now.turn(now.law));
            case "turnBy":
                need(within(a[0], 0, 3), 1);
                return any(now.turn(a[0]));
            case "duel", "goes":
                person(a);
                need(insists(a[0]) < 16 || insists(a[1]) < 16, 6);
                return tell(Chain.of(name.equals("goes") ? -1 : 0, insists(a[0]), insists(a[1])));
            case "trio":
                person(Arrays.copyOf(a, 3));
                need(within(a[3], 0, 2), 1);
                need(Arrays.stream(a, 0, 3).filter(i -> insists(i) == 16).count() < 2, 6);
                return tell(Chain.of(a[3], insists(a[0]), insists(a[1]), insists(a[2])));
            case "reach":
                person(a[1]);
                need(within(a[0], 1, (1 << now.many()) - 1) && (a[0] >> a[1] & 1) == 1, 1);
                int all = now.those(i -> (a[0] >> i & 1) == 1).stream().mapToInt(i -> now.people.get(i)[1]).sum();
                need(all > 0, 6);
                return tell(now.people.get(a[1])[1], all);
            case "easyOn":
                person(a[0]);
                return easyOn(a[0]);
            case "regret":
                person(a[0]);
                return now.regret(a[0]);
            default:
                int[] all2 = new int[6];
                now.those(i -> true).forEach(i -> all2[i] = now.regret(i));
                return any(firstMost(now.many(), all2));
        }
    }

    private int easyOn(int person) {
        BigInteger[] least = null;
        int who = LetMe.NONE;
        for (int other = 0; other < now.many(); other++) {
            if (other == person || insists(person) == 16 && insists(other) == 16) {
                continue;
            }
            BigInteger[] odds = Chain.of(0, insists(person), insists(other));
            if (least == null || odds[0].multiply(least[1]).compareTo(least[0].multiply(odds[1])) < 0) {
                least = odds;
                who = other;
            }
        }
        return any(who);
    }

    /** Whose go it is of which set: ODDS, or how many goes are still to come, of each are a sum of those of the next ones. */
    private static final class Chain {
        /** w below 0: how often one has a go; else the ODDS that the one told as w is left. */
        static BigInteger[] of(int w, int... insists) {
            int many = insists.length;
            int states = (1 << many) * many;
            // row: 16 times the state, less what comes next, is the last column
            BigInteger[][] rows = new BigInteger[states][states + 1];
            for (int state = 0; state < states; state++) {
                Arrays.fill(rows[state], BigInteger.ZERO);
                int set = state / many;
                int who = state % many;
                boolean isOver = Integer.bitCount(set) < 2 || (set >> who & 1) == 0;
                if (isOver) {
                    rows[state][state] = BigInteger.ONE;
                    boolean isLeft = w >= 0 && set == 1 << w && who == w;
                    rows[state][states] = isLeft ? BigInteger.ONE : BigInteger.ZERO;
                    continue;
                }
                int next = (who + 1) % many;
                while ((set >> next & 1) == 0) {
                    next = (next + 1) % many;
                }
                add(rows[state], state, 16);
                add(rows[state], set * many + next, -insists[who]);
                add(rows[state], (set & ~(1 << who)) * many + next, insists[who] - 16);
                rows[state][states] = BigInteger.valueOf(w < 0 ? 16 : 0);
            }
            return solve(rows, ((1 << many) - 1) * many);
        }

        private static void add(BigInteger[] row, int column, int v) {
            row[column] = row[column].add(BigInteger.valueOf(v));
        }

        private static BigInteger[] solve(BigInteger[][] rows, int wanted) {
            int many = rows.length;
            boolean[] isUsed = new boolean[many];
            // the wanted one last, so that its row has nothing else left
            for (int k = 0; k <= many; k++) {
                int column = k == many ? wanted : k;
                if (k == wanted) {
                    continue;
                }
                int pivot = -1;
                for (int i = 0; i < many && pivot < 0; i++) {
                    pivot = !isUsed[i] && rows[i][column].signum() != 0 ? i : -1;
                }
                if (pivot < 0) {
                    continue;
                }
                if (column == wanted) {
                    BigInteger over = rows[pivot][many];
                    BigInteger under = rows[pivot][column];
                    return under.signum() < 0 ? new BigInteger[] {over.negate(), under.negate()} : new BigInteger[] {over, under};
                }
                isUsed[pivot] = true;
                for (int i = 0; i < many; i++) {
                    if (!isUsed[i] && rows[i][column].signum() != 0) {
                        clear(rows[i], rows[pivot], column);
                    }
                }
            }
            throw new IllegalStateException("a chain without an end");
        }

        private static void clear(BigInteger[] row, BigInteger[] by, int column) {
            BigInteger mine = row[column];
            BigInteger its = by[column];
            BigInteger all = BigInteger.ZERO;
            for (int j = 0; j < row.length; j++) {
                if (row[j].signum() != 0 || by[j].signum() != 0) {
                    row[j] = row[j].multiply(its).subtract(by[j].multiply(mine));
                    all = all.gcd(row[j]);
                }
            }
            for (int j = 0; j < row.length && all.bitLength() > 1; j++) {
                row[j] = row[j].divide(all);
            }
        }
    }

    private long ofWhoOwes(String name, int[] a) {
        switch (name) {
            case "owes":
                person(a);
                return now.owes[a[0]][a[1]];
            case "lend":
                person(a[0], a[1]);
                need(within(a[2], 1, 9_999), 1);
                now.owes[a[1]][a[0]] += a[2];
                need(now.owes[a[1]][a[0]] <= MOST_OWED, 7);
                return now.owes[a[1]][a[0]];
            case "balance":
                person(a);
                return now.balance(a[0]);
            case "quits":
                person(a);
                int less = 0;
                while (now.owes[a[0]][a[1]] > 0 && now.owes[a[1]][a[0]] > 0) {
                    now.owes[a[0]][a[1]]--;
                    now.owes[a[1]][a[0]]--;
                    less++;
                }
                return less;
            case "settle":
                return now.settle();
            case "ties":
                return now.ties();
            case "extreme":
                need(within(a[0], 0, 1), 1);
                int[] all = new int[6];
                now.those(i -> true).forEach(i -> all[i] = a[0] == 0 ? -now.balance(i) : now.balance(i));
                return any(firstMost(now.many(), all));
            case "simplify":
                return simplify();
            case "chain":
                person(a);
                return chain(a[0]);
            case "even":
                need(within(a[0], 1, 99), 1);
                return now.even(a[0])[6];
            default:
                person(a[1]);
                need(within(a[0], 1, 99), 1);
                return now.even(a[0])[a[1]];
        }
    }

    private int simplify() {
        int[] left = new int[6];
        int[] less = new int[6];
        now.those(i -> true).forEach(i -> left[i] = now.balance(i));
        int[][] then = new int[6][6];
        while (Arrays.stream(left).anyMatch(v -> v != 0)) {
            Arrays.setAll(less, i -> -left[i]);
            int poor = firstMost(now.many(), less);
            int rich = firstMost(now.many(), left);
            int much = Math.min(less[poor], left[rich]);
            then[poor][rich] += much;
            need(then[poor][rich] <= MOST_OWED, 7);
            left[poor] += much;
            left[rich] -= much;
        }
        now.owes = then;
        return now.ties();
    }

    private int chain(int person) {
        List<Integer> found = new ArrayList<>(List.of(person));
        for (int k = 0; k < found.size(); k++) {
            int who = found.get(k);
            now.those(i -> now.owes[who][i] > 0 && !found.contains(i)).forEach(found::add);
        }
        found.remove(0);
        return set(found);
    }

    private long ofRounds(String name, int[] a) {
        switch (name) {
            case "comes":
                person(a[0]);
                need(within(a[1], 0, 1), 1);
                need(now.in[a[0]] != (a[1] == 1), 7);
                now.in[a[0]] = a[1] == 1;
                return now.those(i -> now.in[i]).size();
            case "buys":
                return any(now.buyer());
            case "round":
                return any(now.round());
            case "drinks":
                person(a);
                return now.had[a[0]] - now.bought[a[0]];
            default:
                need(now.buyer() >= 0, 6);
                State trial = now.copy();
                for (int i = 0; i <= 60; i++) {
                    if (trial.areDrinksEven()) {
                        return i;
                    }
                    trial.round();
                }
                throw new Refusal(6);
        }
    }

    private static BigInteger nextGift(BigInteger last, int hundredths) {
        return last.add(last.multiply(BigInteger.valueOf(hundredths)).divide(BigInteger.valueOf(100))).add(BigInteger.ONE);
    }

    private long ofGifts(String name, int[] a) {
        if (name.equals("gift")) {
            person(a[0], a[1]);
            need(within(a[2], 1, 9_999), 1);
            gives(now, a[0], a[1], a[2]);
            return now.owes[a[1]][a[0]];
        }
        boolean isAt = name.equals("giftAt");
        int pence = isAt ? a[0] : a[2];
        int hundredths = isAt ? a[1] : a[3];
        need(within(pence, 1, 999) && within(hundredths, 0, 100), 1);
        BigInteger worth = BigInteger.valueOf(pence);
        if (isAt) {
            need(within(a[2], 0, 60), 1);
            for (int i = 0; i < a[2]; i++) {
                worth = nextGift(worth, hundredths);
            }
            need(worth.compareTo(BigInteger.valueOf(MOST_OWED)) <= 0, 7);
            return worth.longValueExact();
        }
        person(a[0], a[1]);
        int given = 0;
        BigInteger sum = BigInteger.ZERO;
        while (worth.compareTo(BigInteger.valueOf(now.people.get(a[given % 2])[3])) <= 0) {
            sum = sum.add(worth);
            worth = nextGift(worth, hundredths);
            given++;
        }
        return name.equals("ends") ? given : sum.longValueExact();
    }

    private static void gives(State state, int a, int b, int much) {
        state.owes[b][a] = Math.max(0, state.owes[b][a] - much);
        state.gifts++;
    }

    private long ofYearsAndMarks(String name, int[] a) {
        switch (name) {
            case "live":
                need(within(a[0], 0, 9_999), 1);
                need(now.year != null, 6);
                Life life = new Life(now, a[0]);
                life.run();
                lived = new int[] {life.missed, life.dinners, life.said, life.rounds, life.isCut ? 1 : 0};
                return life.steps;
            case "lived":
                need(within(a[0], 0, 4), 1);
                need(lived != null, 6);
                return lived[a[0]];
            case "mean":
                person(a[0]);
                need(within(a[1], 0, 9_999) && within(a[2], 1, 20) && within((long) a[1] + a[2] - 1, 0, 9_999), 1);
                need(now.year != null, 6);
                int sum = 0;
                for (int seed = a[1]; seed < a[1] + a[2]; seed++) {
                    State then = now.copy();
                    new Life(then, seed).run();
                    sum += then.paid[a[0]];
                }
                return tell(sum, a[2]);
            case "mark":
                need(marks.size() < 3, 4);
                marks.push(now.copy());
                return marks.size();
            case "back":
                need(!marks.isEmpty(), 6);
                now = marks.pop();
                return marks.size();
            default:
                throw new IllegalArgumentException(name);
        }
    }

    /** A YEAR without a FAULT, block within block; a stop, or the 300, ends it by an exception. */
    private static final class Life {
        private final State state;
        private final List<String> tokens;
        private long s;
        private int steps;
        private int missed;
        private int dinners;
        private int said;
        private int rounds;
        private boolean isCut;

        private static final class Over extends RuntimeException {
            private static final long serialVersionUID = 1L;

            private Over() {
                super(null, null, false, false);
            }
        }

        private Life(State state, int seed) {
            this.state = state;
            this.s = seed;
            String spaced = state.year.replaceAll("([;<>=])", " $1 ").replaceAll("([a-z])([0-9])", "$1 $2").replaceAll("([0-9])([a-z])", "$1 $2");
            this.tokens = Arrays.stream(spaced.split("[ \n]+")).filter(token -> !token.isEmpty()).toList();
        }

        void run() {
            try {
                block(0, true);
            } catch (Over over) {
                // all is told by the counters
            }
        }

        /** From a place on to an end, or the text's: the place behind it. */
        private int block(int from, boolean isDone) {
            int at = from;
            while (at < tokens.size() && !tokens.get(at).equals("end")) {
                at = step(at, isDone);
            }
            return at + 2;
        }

        private int step(int at, boolean isDone) {
            int semicolon = at + tokens.subList(at, tokens.size()).indexOf(";");
            List<String> words = tokens.subList(at, semicolon);
            boolean isWhen = words.get(0).equals("when");
            boolean isLoop = words.get(0).equals("loop");
            if (isDone) {
                if (steps == 300) {
                    isCut = true;
                    throw new Over();
                }
                steps++;
            }
            if (!isWhen && !isLoop) {
                if (isDone) {
                    simple(words);
                }
                return semicolon + 1;
            }
            int times = !isDone ? 0 : isLoop ? Integer.parseInt(words.get(1)) : holds(words) ? 1 : 0;
            int behind = block(semicolon + 1, false);
            for (int i = 0; i < times; i++) {
                block(semicolon + 1, true);
            }
            return behind;
        }

        private int who(String name) {
            return state.names.indexOf(name);
        }

        private void simple(List<String> words) {
            int n = words.size() == 5 ? Integer.parseInt(words.get(4)) : 0;
            switch (words.get(0)) {
                case "dinner" -> dinner(words.size() == 3 ? who(words.get(2)) : reaches());
                case "duel" -> dinner(stays(who(words.get(1)), who(words.get(3))));
                case "gift" -> gives(state, who(words.get(1)), who(words.get(3)), n);
                case "lend" -> {
                    int a = who(words.get(1));
                    int b = who(words.get(3));
                    if (state.owes[b][a] + n > MOST_OWED) {
                        missed++;
                    } else {
                        state.owes[b][a] += n;
                    }
                }
                case "round" -> {
                    if (state.round() < 0) {
                        missed++;
                    } else {
                        rounds++;
                    }
                }
                default -> throw new Over();
            }
        }

        private void dinner(int person) {
            if (person >= 0 && state.pays(person)) {
                dinners++;
            } else {
                missed++;
            }
        }

        private int draw(int n) {
            s = (s * 2_917 + 11_119) % 65_536;
            return (int) (s / 8 % n);
        }

        private int reaches() {
            List<Integer> tickets = new ArrayList<>();
            for (int i = 0; i < state.many(); i++) {
                for (int k = 0; k < state.people.get(i)[1]; k++) {
                    tickets.add(i);
                }
            }
            return tickets.isEmpty() ? LetMe.NONE : tickets.get(draw(tickets.size()));
        }

        private int stays(int a, int b) {
            for (int go = 0; go < 20; go++) {
                said++;
                if (draw(16) >= state.people.get(go % 2 == 0 ? a : b)[0]) {
                    return go % 2 == 0 ? b : a;
                }
            }
            return b;
        }

        private boolean holds(List<String> words) {
            int first = who(words.get(2));
            if (words.get(1).equals("turn")) {
                return state.turn(state.law) == first;
            }
            int much = words.get(1).equals("paid") ? state.paid[first] : state.owes[first][who(words.get(3))];
            int n = Integer.parseInt(words.get(words.size() - 1));
            return switch (words.get(words.size() - 2)) {
                case "<" -> much < n;
                case ">" -> much > n;
                default -> much == n;
            };
        }
    }
}
