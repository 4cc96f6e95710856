import com.sun.management.ThreadMXBean;
import java.lang.management.ManagementFactory;
import java.util.function.ObjIntConsumer;

/** A run of the dearest calls makes few objects: all that a run makes stays in one room. */
public final class RoomTest {
    private static final int CALLS = 500;
    /** 2000 packets and 512 classes of their own take some 150 kB; a packet a put would take megabytes. */
    private static final long MOST_BYTES = 300_000;

    private static final ThreadMXBean THREADS = (ThreadMXBean) ManagementFactory.getThreadMXBean();

    public static void main(String[] args) {
        dueRoom("packets that are sent", RoomTest::putOrTurns);
        dueRoom("packets that are cleared", RoomTest::putOrClear);
        dueRoom("classes", RoomTest::addOrRemove);
        dueRoom("questions", RoomTest::ask);
        Check.end();
    }

    private static void dueRoom(String what, ObjIntConsumer<TurnTree> call) {
        long before = THREADS.getCurrentThreadAllocatedBytes();
        TurnTree t = new TurnTree();
        t.add(0, 1, 2000);
        t.add(0, 1, 2000);
        for (int i = 0; i < CALLS; i++) {
            call.accept(t, i);
        }
        long bytes = THREADS.getCurrentThreadAllocatedBytes() - before;
        Check.due(what + ": " + bytes + " bytes are few", bytes < MOST_BYTES, true);
    }

    private static void putOrTurns(TurnTree t, int i) {
        if (i % 2 == 0) {
            t.putAll(1 + i / 2 % 2, i, 1, 500);
        } else {
            t.turns(500);
        }
    }

    private static void putOrClear(TurnTree t, int i) {
        if (i % 5 != 4) {
            t.putAll(1 + i % 2, i, 1, 500);
        } else {
            t.clear(0);
        }
    }

    private static void addOrRemove(TurnTree t, int i) {
        if (i % 2 == 0) {
            t.add(0, 1, 2000);
        } else {
            t.remove(3);
        }
    }

    private static void ask(TurnTree t, int i) {
        switch (i % 5) {
            case 0: t.child(0, i % 2); break;
            case 1: t.sum(0, i % 4); break;
            case 2: t.about(1, i % 8); break;
            case 3: t.count(i / 5 % 5); break;
            default: t.latest(i % 3);
        }
    }
}
