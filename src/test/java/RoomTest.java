import java.lang.management.ManagementFactory;
import java.util.function.IntConsumer;

/** All calls of a run live in one room: an object is small, and its calls make next to nothing. */
public final class RoomTest {
    private static final com.sun.management.ThreadMXBean ROOM = (com.sun.management.ThreadMXBean) ManagementFactory.getThreadMXBean();
    private static int wrong;

    private static long bytes(Runnable what) {
        what.run();
        long before = ROOM.getCurrentThreadAllocatedBytes();
        what.run();
        return ROOM.getCurrentThreadAllocatedBytes() - before;
    }

    private static void atMost(String what, long bytes, long most) {
        if (bytes <= most) return;
        wrong++;
        System.out.println(what + " takes " + bytes + " bytes");
    }

    private static LeftUndoes full() {
        LeftUndoes x = new LeftUndoes();
        for (int p = 0; p < 6; p++) x.person(p % 5 + 1, 2, 5);
        for (int d = 0; d < 10; d++) x.deed(d % 6, d % 4, d % 9 + 1, -1);
        for (int r = 0; r < 6; r++) x.report(3, r, 9, 0);
        x.ends(16);
        x.sheet(0, 0, 40);
        x.shelf(0, 0, 2);
        return x;
    }

    private static void calls(String what, long most, IntConsumer call) {
        atMost("512 calls of " + what, bytes(() -> { for (int k = 0; k < 512; k++) call.accept(k); }), most);
    }

    public static void main(String[] args) {
        atMost("an object", bytes(() -> new LeftUndoes()), 20000);
        LeftUndoes x = full();
        calls("best", 1000, k -> x.best(k % 5));
        calls("ith", 1000, k -> x.ith(4, k % 4));
        calls("life", 1000, k -> x.life(4, k));
        calls("bars", 1000, k -> x.bars(4, k));
        calls("game", 1000, k -> x.game(k % 4 + 1));
        calls("play", 1000, k -> x.play(k % 4 + 1));
        calls("prove, judge", 1000, k -> x.prove(k % 5 + x.judge()));
        calls("often", 1000, k -> x.often(40, k));
        calls("graceFor", 1000, k -> x.graceFor(k % 6));
        calls("strengthFor", 1000, k -> x.strengthFor(k % 6));
        calls("overdue, leaves", 1000, k -> x.leaves(x.overdue() % 6));
        calls("span, liar", 1000, k -> x.span(x.liar() + 4 & 3));
        calls("payments, ring", 1000, k -> x.payments());
        calls("act, trace", 1000, k -> x.trace(x.act(0, k & 3, k) & 7));
        calls("sheet, goAll", 1000, k -> x.sheet(k & 3, k % 5, x.goAll(0, 0, 20) & 15));
        calls("feed, rules", 1000, k -> x.feed(x.rules(), 8));
        calls("remake", 512 * 64, k -> x.remake(k % 6, k % 5 + 1));
        calls("keep, again", 512 * 1000, k -> x.keep());
        if (wrong == 0) System.out.println("there is room for all calls");
        else System.exit(1);
    }
}
