import com.sun.management.ThreadMXBean;
import java.lang.management.ManagementFactory;
import java.util.Random;

/** All calls of a run live in one room: what is made, is made by the constructor. */
public final class RoomTest {
    private final Due due = new Due();
    private final ThreadMXBean meter = (ThreadMXBean) ManagementFactory.getThreadMXBean();
    private int sum;

    public static void main(String[] args) {
        RoomTest test = new RoomTest();
        test.warmUp();
        test.constructor();
        test.calls();
        test.due.end();
    }

    private long made() {
        return meter.getCurrentThreadAllocatedBytes();
    }

    private void warmUp() {
        for (int i = 0; i < 3; i++) {
            made();
            use(new IceTunes(), ponds());
        }
    }

    private int[][] ponds() {
        Texts texts = new Texts(new Random(7));
        int[][] ponds = new int[12][];
        for (int i = 0; i < ponds.length; i++) {
            ponds[i] = Due.numbers(Due.bytes(i % 4 == 3 ? texts.spoil(texts.pond()) : texts.pond()));
        }
        return ponds;
    }

    // 600,000 objects and 7.3 million elements are the room: a run that makes a new object at every one of 512 calls still fits.
    private void constructor() {
        long before = made();
        IceTunes x = new IceTunes();
        long bytes = made() - before;
        sum += x.about(0);
        System.out.println("a new object: " + bytes + " bytes");
        due.is("a new object is small", bytes < 7300000 / 512 * 4, true);
    }

    private void calls() {
        int[][] ponds = ponds();
        IceTunes x = new IceTunes();
        long before = made();
        int calls = use(x, ponds);
        long bytes = made() - before;
        System.out.println(calls + " calls: " + bytes + " bytes");
        due.is("calls make nothing", bytes < 2000, true);
    }

    private int use(IceTunes x, int[][] ponds) {
        int calls = 0;
        for (int[] n : ponds) {
            for (int i = 0; i < n.length; i += 5) {
                sum += x.feed(n[i], n[i + 1], n[i + 2], n[i + 3], n[i + 4]);
                calls++;
            }
            sum += x.pond() + x.fault(1) + x.end(0);
            calls += 3;
            for (int i = -1; i < 7; i++) {
                sum += x.play(i) + x.hold(i) + x.order(1 << i + 1) + x.duel(3, i, 0) + x.planks(i) + x.hush(i, 1) + x.breaks(i, i) + x.lies(i);
                sum += x.sight(i, 0, 0, 0, 99) + x.seen(i, i, true) + x.later(i) + x.asked(i, i) + x.sure(i, 0, i) + x.image(i) + x.back(i) + x.about(i);
                sum += (x.undo() ? 1 : 0) + (x.redo() ? 1 : 0) + (x.untell(i) ? 1 : 0) + x.ice(i, i) + x.load(i, 0) + x.skater(i, i);
                calls += 22;
            }
        }
        return calls;
    }
}
