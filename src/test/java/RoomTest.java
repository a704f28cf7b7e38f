import com.sun.management.ThreadMXBean;
import java.lang.management.ManagementFactory;

/** A new object is small, and its calls make nothing: all calls of a run live in one room. */
public final class RoomTest {
    private static final int MOST_BYTES_OF_ONE = 12_000;
    private static final Due due = new Due("room");

    public static void main(String[] args) {
        ThreadMXBean threads = (ThreadMXBean) ManagementFactory.getThreadMXBean();
        long made = 0;
        long called = 0;
        // the first rounds load classes, which is counted, too
        for (int round = 0; round < 5; round++) {
            long start = threads.getCurrentThreadAllocatedBytes();
            ShadeNames x = new ShadeNames();
            long ready = threads.getCurrentThreadAllocatedBytes();
            every(x);
            called = threads.getCurrentThreadAllocatedBytes() - ready;
            made = ready - start;
        }
        due.is("bytes that calls made", called, 0);
        due.holds("a new object has " + made + " bytes", made <= MOST_BYTES_OF_ONE);
        due.end();
    }

    private static final String EIGHT = "n2222031w5551141s0003270l4003191d1501320p1133050n3330000";

    private static void every(ShadeNames x) {
        x.text(0, EIGHT.length());
        for (int i = 0; i < EIGHT.length(); i++) {
            x.put(0, i, EIGHT.charAt(i));
        }
        x.fault(0);
        x.registry(0);
        x.keep(0);
        x.year();
        x.say(0, 190, 0, 0);
        x.undo(1);
        x.on(0);
        for (int k = 0; k < 8; k++) {
            x.name(k, 6);
            x.lost(k);
            x.kinds(k, 7);
            for (int kind = 0; kind < 6; kind++) {
                x.mark(k, kind);
            }
        }
        x.row(0, 4);
        x.lay(0, 0, 1);
        x.lay(0, 1, 215);
        x.copy(0, 0, 0, 1, 2);
        x.mean(0);
        x.at(0, 9);
        x.row(1, 3);
        x.tear(1);
        x.row(1, 3);
        for (int v = 0; v < 4; v++) {
            x.due(v, v);
            x.owes(v, 100);
            x.lives(v, 0);
            x.cover(0, v);
            x.best(0, v);
            x.cheap(0, v);
            x.gap(v, v);
            x.odds(v);
            x.mid(v);
            x.lots(v, 40, 77);
            x.moves(v);
        }
        x.mix(0, 5);
        x.apart(0, 215);
        x.called(86);
        x.disputed();
        x.free();
        x.eyes(1);
        x.show(1);
        x.judged(1, 0, 3);
        x.was(7, 3);
        x.asked();
        x.upper();
        x.lower();
        x.count(3);
        x.finding();
        x.findings(1);
        x.digest();
    }
}
