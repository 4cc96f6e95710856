/** Promises 6, 7, 11 and 14: packets come, wait in line, and are dropped. */
public final class PacketsTest {
    public static void main(String[] args) {
        putFillsALeaf();
        putOpensTheWayToTheRoot();
        putAllStopsAtTheLimit();
        putAllStopsAt2000();
        putAllEdges();
        clearDropsAllUnderAClass();
        clearKeepsTheTags();
        packetsAreFirstInFirstOut();
        packetsComeAfterOthersHaveGone();
        Check.end();
    }

    /** 1 holds the leaves 2 (with a limit of 2) and 3 (with two packets). */
    private static TurnTree small() {
        TurnTree t = new TurnTree();
        t.add(0, 3, 10);
        t.add(1, 2, 2);
        t.add(1, 5, 9);
        t.putAll(3, 30, 20, 2);
        return t;
    }

    private static void putFillsALeaf() {
        TurnTree t = small();
        Check.due("1st", t.put(2, -5, 1), true);
        Check.due("2nd", t.put(2, Integer.MIN_VALUE, 2000), true);
        Check.due("3rd", t.put(2, 7, 10), false);
        Check.due("4th", t.put(2, 8, 10), false);
        Check.due("packets", t.about(2, 4), 2);
        Check.due("packets under 1", t.about(1, 4), 4);
        Check.due("bytes", t.sum(2, 3), 2001);
        Check.due("bytes under the root", t.sum(0, 3), 2041);
        Check.due("packets of all", t.count(1), 4);
        Check.due("dropped", t.count(4), 2);
        Check.due("packet(2, 0)", t.packet(2, 0), -5);
        Check.due("packet(2, 1)", t.packet(2, 1), Integer.MIN_VALUE);
        t.turns(4);
        Check.due("room again", t.put(2, 9, 9), true);
    }

    private static void putOpensTheWayToTheRoot() {
        TurnTree t = new TurnTree();
        t.add(0, 1, 5);
        t.add(1, 1, 5);
        t.add(0, 1, 5);
        t.putAll(3, 1, 10, 5);
        t.turns(3);
        Check.due("not open yet", t.about(1, 5) + t.about(2, 5), 0);
        t.put(2, 1, 1);
        Check.due("open", t.about(1, 5) + t.about(2, 5), 2);
        Check.due("tag of 1 becomes the time", t.sum(1, 0), 20 * 65536);
        Check.due("tag of 2 stays", t.sum(2, 0), 0);
    }

    private static void putAllStopsAtTheLimit() {
        TurnTree t = small();
        Check.due("putAll", t.putAll(2, Integer.MAX_VALUE, 3, 5), 2);
        Check.due("only one is dropped", t.count(4), 1);
        Check.due("packet(2, 0)", t.packet(2, 0), Integer.MAX_VALUE);
        Check.due("the ids wrap", t.packet(2, 1), Integer.MIN_VALUE);
        Check.due("bytes", t.sum(2, 3), 6);
        Check.due("putAll in a full leaf", t.putAll(2, 1, 1, 500), 0);
        Check.due("one more is dropped", t.count(4), 2);
        Check.due("just as many as there is room for", t.putAll(3, 1, 1, 7), 7);
        Check.due("none is dropped", t.count(4), 2);
        Check.due("open leaves", t.count(2), 2);
    }

    private static void putAllStopsAt2000() {
        TurnTree t = Sample.crowded();
        Check.due("putAll at 2000", t.putAll(2, 1, 1, 1), 0);
        Check.due("putAll in a full leaf at 2000", t.putAll(1, 1, 1, 3), 0);
        Check.due("none is dropped", t.count(4), 0);
        t.clear(1);
        t.putAll(1, 0, 1, 500);
        t.putAll(1, 0, 1, 497);
        Check.due("up to 2000", t.putAll(2, 50, 1, 4), 3);
        Check.due("only clear() has dropped", t.count(4), 1000);
        Check.due("packets", t.count(1), 2000);
    }

    private static void putAllEdges() {
        TurnTree t = small();
        Check.due("n = 0", t.putAll(2, 1, 1, 0), 0);
        Check.due("closed", t.about(2, 5), 0);
        t.putAll(2, 1, 1, 2);
        Check.due("n = 0 in a full leaf", t.putAll(2, 1, 1, 0), 0);
        Check.due("none is dropped", t.count(4), 0);
        t.add(0, 1, 2000);
        Check.due("n = 500", t.putAll(4, 1, 2000, 500), 500);
        Check.due("bytes", t.sum(4, 3), 1000000);
        Check.due("the last id", t.packet(4, 499), 500);
    }

    private static void clearDropsAllUnderAClass() {
        TurnTree t = small();
        t.put(2, 5, 5);
        t.put(2, 6, 6);
        t.put(2, 7, 7);
        t.add(0, 1, 1);
        t.put(4, 1, 100);
        Check.due("clear(1)", t.clear(1), 4);
        Check.due("packets", t.count(1), 1);
        Check.due("dropped", t.count(4), 5);
        Check.due("1 is closed", t.about(1, 5), 0);
        Check.due("the root is open", t.about(0, 5), 1);
        Check.due("bytes", t.sum(0, 3), 100);
        Check.due("clear(1) again", t.clear(1), 0);
        Check.due("put again", t.put(2, 8, 8), true);
        Check.due("clear a leaf", t.clear(2), 1);
        Check.due("clear the root", t.clear(0), 1);
        Check.due("the root is closed", t.about(0, 5), 0);
        Check.due("dropped", t.count(4), 7);
        Check.due("turn", t.turn(), false);
        t.hold(3, 5);
        t.put(3, 1, 1);
        Check.due("clear a held leaf", t.clear(0), 1);
        Check.due("still held", t.about(3, 6), 5);
    }

    private static void clearKeepsTheTags() {
        TurnTree t = small();
        t.turn();
        t.clear(0);
        Check.due("class 3", View.ofClass(t, 3),
                "about 1 5 0 0 0 0 0 9 sums 262144 0 20 0 children packets");
        Check.due("class 1", View.ofClass(t, 1),
                "about 0 3 2 2 0 0 0 10 sums 436906 0 20 0 children 2 3 packets");
        Check.due("all", View.ofAll(t), "counts 4 0 0 1 1 latest 3 30 20");
    }

    private static void packetsAreFirstInFirstOut() {
        TurnTree t = small();
        t.put(3, 99, 1);
        t.turn();
        Check.due("latest(1)", t.latest(1), 30);
        Check.due("packet(3, 0)", t.packet(3, 0), 31);
        Check.due("packet(3, 1)", t.packet(3, 1), 99);
        t.put(3, -1, 1);
        Check.due("packet(3, 2)", t.packet(3, 2), -1);
        t.turns(2);
        Check.due("latest(1)", t.latest(1), 99);
        Check.due("latest(2)", t.latest(2), 1);
        Check.due("packet(3, 0)", t.packet(3, 0), -1);
    }

    /** What is sent or cleared leaves no trace in the lines that are filled afterwards. */
    private static void packetsComeAfterOthersHaveGone() {
        TurnTree t = new TurnTree();
        t.add(0, 1, 9);
        t.add(0, 1, 9);
        t.putAll(1, 10, 1, 4);
        t.putAll(2, 20, 1, 4);
        t.turns(3);
        t.clear(1);
        t.turn();
        for (int i = 0; i < 5; i++) {
            t.put(1, 30 + i, 2);
            t.put(2, 40 + i, 3);
        }
        t.clear(2);
        t.putAll(2, 50, 4, 3);
        Check.due("class 1", View.ofClass(t, 1),
                "about 0 1 0 0 5 1 0 9 sums 131072 0 2 10 children packets 30 31 32 33 34");
        Check.due("class 2", View.ofClass(t, 2),
                "about 0 1 0 0 3 1 0 9 sums 131072 0 2 12 children packets 50 51 52");
        Check.due("turns", t.turns(20), 8);
        Check.due("bytes", t.sum(0, 2), 4 + 10 + 12);
        t.put(1, 60, 1);
        Check.due("packet(1, 0)", t.packet(1, 0), 60);
        Check.due("packets", t.count(1), 1);
        Check.due("turns", t.turns(20), 1);
    }
}
