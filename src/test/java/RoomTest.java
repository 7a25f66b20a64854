import com.sun.management.ThreadMXBean;
import java.lang.management.ManagementFactory;
import java.util.LinkedHashMap;
import java.util.Map;
import java.util.function.ToLongFunction;

/** The room that all calls of one run share: an object makes its rows once, and a call hardly anything. */
public final class RoomTest {
    private static final Check CHECK = new Check("RoomTest");
    private static final ThreadMXBean THREAD = (ThreadMXBean) ManagementFactory.getThreadMXBean();
    private static final int OBJECT_BYTES = 40_000;
    private static final int TEXT_BYTES = 160;
    private static final int TIMES = 40;

    public static void main(String[] args) {
        Map<String, ToLongFunction<LetMe>> calls = new LinkedHashMap<>();
        calls.put("tray", x -> x.tray(1, 3, 60) ? 1 : 0);
        calls.put("pour", x -> x.pour(1, 0, 1, 1, 3) ? 1 : 0);
        calls.put("dues", x -> x.due(0, 1) + x.unfair(2) + x.fairest() + x.dearer(0, 1, 2) + x.hardest(1));
        calls.put("second", x -> x.second(8, 1));
        calls.put("pay", x -> x.pay(1));
        calls.put("fractions", x -> (x.duel(0, 2) ? 1 : 0) + (x.goes(0, 2) ? 1 : 0) + (x.trio(0, 1, 2, 1) ? 1 : 0) + (x.reach(7, 1) ? 1 : 0));
        calls.put("settle", x -> x.settle() + x.ties() + x.chain(0) + x.extreme(0) + x.simplify());
        calls.put("even", x -> x.even(1) + x.evenBy(1, 0));
        calls.put("rounds", x -> x.round() + x.buys() + x.evenRounds());
        calls.put("gifts", x -> x.giftAt(1, 1, 60) + x.ends(0, 1, 1, 0) + x.wasted(0, 1, 1, 0) + x.gift(0, 1, 5));
        calls.put("receipts", x -> x.receipts(0, 2, 9, 1) + x.remembers(1));
        calls.put("live", x -> x.live(9));
        calls.put("mean", x -> x.mean(0, 0, 20) ? 1 : 0);
        calls.put("marks", x -> x.mark() + x.back());
        calls.put("what is told", x -> x.status() + x.top() + x.bottom() + x.fault(0) + x.told(10) + x.told(5) + x.person(0, 4) + x.dish(0, 1));
        calls.put("numbers of a TRAY", x -> (x.write(0, 59, 7) ? 1 : 0) + x.read(0, 59));
        calls.put("feed", x -> x.feed(1, 2, 3, 4, 5));
        calls.put("DISHES", x -> x.strike() + x.order(1, 2) + x.eaten(0) + x.padded(9));
        calls.put("SPLIT and LAW", x -> (x.split(1) ? 1 : 0) + (x.law(2) ? 1 : 0) + x.turn() + x.turnBy(1));
        calls.put("who pays", x -> x.easyOn(0) + x.regret(1) + x.sorest());
        calls.put("who OWES", x -> x.lend(0, 1, 5) + x.owes(1, 0) + x.balance(2) + x.quits(0, 1));
        calls.put("who comes", x -> x.comes(1, 0) + x.comes(1, 1) + x.drinks(1));
        calls.put("lived", x -> x.lived(2));
        calls.put("refusals", x -> x.told(-1) + x.read(3, 0) + x.owes(0, 0) + x.comes(0, 1) + x.table(-1) + x.year(-1) + x.back());
        for (String name : calls.keySet()) {
            CHECK.due(name + " makes nothing", made(calls.get(name)), 0);
        }
        long table = made(x -> Check.table(x, "person a;person b;dish 5;"));
        CHECK.due("a TABLE makes its reader alone, " + table, table <= TEXT_BYTES * TIMES, true);
        long year = made(x -> Check.year(x, "loop 3;round;end;"));
        CHECK.due("a YEAR makes its reader alone, " + year, year <= TEXT_BYTES * TIMES, true);
        object();
        CHECK.finish();
    }

    private static LetMe full() {
        LetMe x = Check.at("person a insists 8 quick 3;person b insists 9;person c insists 3 guest;couple a b;owes a b 7;" + "dish 1;".repeat(16),
            "loop 99;dinner;duel a with b;round;when paid a > 3;lend a to b 3;end;end;");
        x.tray(0, 0, 60);
        return x;
    }

    /** The least of some, as the first calls load classes and are linked. */
    private static long made(ToLongFunction<LetMe> call) {
        long least = Long.MAX_VALUE;
        for (int i = 0; i < 4; i++) {
            least = Math.min(least, bytes(call, full()));
        }
        return least;
    }

    private static long bytes(ToLongFunction<LetMe> call, LetMe x) {
        long before = THREAD.getThreadAllocatedBytes(Thread.currentThread().getId());
        for (int i = 0; i < TIMES; i++) {
            call.applyAsLong(x);
        }
        return THREAD.getThreadAllocatedBytes(Thread.currentThread().getId()) - before;
    }

    private static void object() {
        new LetMe();
        long before = THREAD.getThreadAllocatedBytes(Thread.currentThread().getId());
        LetMe x = new LetMe();
        long made = THREAD.getThreadAllocatedBytes(Thread.currentThread().getId()) - before;
        CHECK.due("an object, " + made + " bytes", made <= OBJECT_BYTES && x.status() == 0, true);
    }
}
