/** The edges that promises 8, 9, 10 and 12 name, sentence by sentence, each on both of its sides. */
public final class TurnsEdgesTest {
    private static final int LEAST = Integer.MIN_VALUE;
    private static final int MOST = Integer.MAX_VALUE;

    public static void main(String[] args) {
        turnWhetherThereWasOne();
        turnOfAnOpenClassUnderTheRoot();
        turnThatWasNoneChangesNothing();
        turnsAtMostN();
        turnsHowManyThereWere();
        turnsNFrom0To1000();
        latestBeforeTheFirstOne();
        latestOfTheFirstOneAndOn();
        latestIsNoneOfThese();
        holdUntilSoManyTurnsMore();
        hold0IsNotHeldAnyMore();
        holdAgain();
        holdTheRoot();
        holdTurnsFrom0To1000();
        holdOf1000Turns();
        holdOfWhatHasNoLoad();
        holdThrowsTheOneNamedFirst();
        Check.end();
    }

    /** "A turn: whether there was one". */
    private static void turnWhetherThereWasOne() {
        TurnTree t = Sample.leaves(1);
        Check.due("no packet", t.turn(), false);
        t.put(1, 1, 1);
        Check.due("one packet", t.turn(), true);
        Check.due("no packet again", t.turn(), false);
        Check.due("turns so far", t.count(3), 1);
        Check.due("a new object", new TurnTree().turn(), false);
    }

    /** "(an open class under the root)": packets alone will not do. */
    private static void turnOfAnOpenClassUnderTheRoot() {
        TurnTree t = Sample.leaves(1, 1);
        t.add(1, 1, 9);
        t.put(3, 1, 1);
        t.put(2, 2, 1);
        t.hold(1, 9);
        t.hold(2, 9);
        Check.due("open under a held class", t.about(3, 5), 1);
        Check.due("both are held", t.turn(), false);
        t.hold(1, 0);
        Check.due("one is open", t.turn(), true);
        Check.due("leaf", t.latest(0), 3);
        Check.due("the other is held", t.turn(), false);
        Check.due("packets", t.count(1), 1);
        t.hold(2, 0);
        Check.due("it is open", t.turn(), true);
        Check.due("leaf", t.latest(0), 2);
    }

    /** No turn: nothing is sent, no time moves, no hold comes nearer to its end. */
    private static void turnThatWasNoneChangesNothing() {
        TurnTree t = Sample.busy();
        t.hold(1, 5);
        t.hold(4, 6);
        TurnTree same = Sample.busy();
        same.hold(1, 5);
        same.hold(4, 6);
        Check.due("turn", t.turn(), false);
        Check.due("turns", t.turns(1000), 0);
        for (int c = 0; c <= 5; c++) {
            Check.due("class " + c, View.ofClass(t, c), View.ofClass(same, c));
        }
        Check.due("all", View.ofAll(t), View.ofAll(same));
        Check.due("held", t.about(1, 6), 5);
    }

    /** "Turns, at most n". */
    private static void turnsAtMostN() {
        TurnTree t = Sample.leaves(1);
        t.putAll(1, 1, 1, 10);
        Check.due("n = 0", t.turns(0), 0);
        Check.due("none so far", t.count(3), 0);
        Check.due("n = 1", t.turns(1), 1);
        Check.due("one so far", t.count(3), 1);
        Check.due("n = 3", t.turns(3), 3);
        Check.due("four so far", t.count(3), 4);
        Check.due("packets", t.count(1), 6);
        Check.due("id", t.latest(1), 4);
    }

    /** "how many there were". */
    private static void turnsHowManyThereWere() {
        for (int n = 4; n <= 6; n++) {
            TurnTree t = Sample.leaves(1, 1);
            t.putAll(1, 1, 1, 5);
            Check.due("n = " + n + " of 5 packets", t.turns(n), Math.min(n, 5));
            Check.due("turns so far", t.count(3), Math.min(n, 5));
        }
        TurnTree held = Sample.leaves(1, 1);
        held.putAll(1, 1, 1, 5);
        held.putAll(2, 1, 1, 5);
        held.hold(2, 6);
        Check.due("the hold is longer than the packets last", held.turns(1000), 5);
        Check.due("held", held.about(2, 6), 1);
        TurnTree ends = Sample.leaves(1, 1);
        ends.putAll(1, 1, 1, 5);
        ends.putAll(2, 1, 1, 5);
        ends.hold(2, 5);
        Check.due("the hold ends with the last packet", ends.turns(1000), 10);
    }

    /** "IllegalArgumentException: n is not 0 .. 1000." */
    private static void turnsNFrom0To1000() {
        TurnTree t = Sample.crowded();
        Check.due("n = 1000", t.turns(1000), 1000);
        Check.due("n = 0", t.turns(0), 0);
        Check.due("n = 1000 again", t.turns(1000), 1000);
        Check.due("n = 1000 of none", t.turns(1000), 0);
        Check.refusedEach("turns(n)", Check.ARGUMENT, Sample::busy, (x, n) -> x.turns(n),
                LEAST, -1, 1001, MOST);
        Check.refusedEach("turns(n) of none", Check.ARGUMENT, TurnTree::new, (x, n) -> x.turns(n), -1, 1001);
    }

    private static void dueLatest(String when, TurnTree t, int leaf, int id, int length) {
        Check.due("leaf " + when, t.latest(0), leaf);
        Check.due("id " + when, t.latest(1), id);
        Check.due("length " + when, t.latest(2), length);
    }

    /** "Of the latest turn (NONE before the first one; the id 0)". */
    private static void latestBeforeTheFirstOne() {
        TurnTree t = new TurnTree();
        dueLatest("at first", t, TurnTree.NONE, 0, TurnTree.NONE);
        t.add(0, 1, 2);
        t.put(1, 77, 5);
        dueLatest("with a packet", t, TurnTree.NONE, 0, TurnTree.NONE);
        t.hold(1, 3);
        t.turn();
        t.turns(5);
        dueLatest("behind turns that were none", t, TurnTree.NONE, 0, TurnTree.NONE);
    }

    /** The same, from the first turn on; a turn that was none leaves it. */
    private static void latestOfTheFirstOneAndOn() {
        TurnTree t = Sample.leaves(1);
        t.put(1, -1, 2000);
        t.turn();
        dueLatest("behind the first", t, 1, -1, 2000);
        t.turn();
        dueLatest("behind one that was none", t, 1, -1, 2000);
        t.turns(0);
        t.remove(1);
        dueLatest("behind the end of its leaf", t, 1, -1, 2000);
        t.add(0, 1, 9);
        t.add(1, 1, 9);
        t.putAll(2, 5, 1, 2);
        t.clear(0);
        t.putAll(2, 8, 3, 2);
        dueLatest("before the second", t, 1, -1, 2000);
        t.turns(2);
        dueLatest("behind the third", t, 2, 9, 3);
    }

    /** "IllegalArgumentException: what is none of these." */
    private static void latestIsNoneOfThese() {
        Check.allowedEach("latest(what)", Sample::busy, (t, what) -> t.latest(what), 0, 1, 2);
        Check.refusedEach("latest(what)", Check.ARGUMENT, Sample::busy, (t, what) -> t.latest(what),
                LEAST, -1, 3, MOST);
        Check.refusedEach("latest(what)", Check.ARGUMENT, TurnTree::new, (t, what) -> t.latest(what), -1, 3);
    }

    /** "A class is held until so many turns more have been". */
    private static void holdUntilSoManyTurnsMore() {
        TurnTree t = Sample.leaves(1, 1);
        t.putAll(1, 10, 1, 5);
        t.putAll(2, 20, 1, 5);
        t.turn();
        t.hold(1, 1);
        Check.due("held", t.about(1, 6), 1);
        t.turn();
        Check.due("the other's turn", t.latest(0), 2);
        Check.due("held no more", t.about(1, 6), 0);
        Check.due("open", t.about(1, 5), 1);
        t.hold(1, 2);
        t.turns(2);
        Check.due("the other's turns", t.latest(1), 22);
        t.turn();
        Check.due("its turn", t.latest(0), 1);
    }

    /** "(0: it is not held any more)". */
    private static void hold0IsNotHeldAnyMore() {
        TurnTree t = Sample.busy();
        t.hold(5, 0);
        Check.due("held no more", t.about(5, 6), 0);
        Check.due("open", t.about(5, 5), 1);
        t.hold(5, 0);
        Check.due("once more", t.about(5, 5), 1);
        String four = View.ofClass(t, 4);
        t.hold(4, 0);
        Check.due("one that was not held", View.ofClass(t, 4), four);
        t.hold(3, 0);
        Check.due("one without load", t.about(3, 5), 0);
        t.hold(4, 1);
        t.hold(4, 0);
        Check.due("held and let go, without a turn", t.about(4, 5), 1);
    }

    /** The latest hold counts, be it longer or shorter than the one before. */
    private static void holdAgain() {
        TurnTree longer = Sample.leaves(1, 1);
        longer.put(1, 1, 1);
        longer.putAll(2, 1, 1, 9);
        longer.hold(1, 1);
        longer.hold(1, 2);
        longer.turn();
        Check.due("longer", longer.about(1, 6), 1);
        Check.due("not open yet", longer.about(1, 5), 0);
        TurnTree shorter = Sample.leaves(1, 1);
        shorter.put(1, 1, 1);
        shorter.putAll(2, 1, 1, 9);
        shorter.hold(1, 2);
        shorter.hold(1, 1);
        shorter.turn();
        Check.due("shorter", shorter.about(1, 6), 0);
        Check.due("open", shorter.about(1, 5), 1);
    }

    /** "IndexOutOfBoundsException (also for the root)". */
    private static void holdTheRoot() {
        Check.refusedEach("hold(0, n)", Check.INDEX, Sample::busy, (t, n) -> t.hold(0, n), 0, 1, 1000);
        Check.refused("hold(0, 1) of a lone root", Check.INDEX, TurnTree::new, t -> t.hold(0, 1));
        Check.allowedEach("hold(c, 1)", Sample::busy, (t, c) -> t.hold(c, 1), 1, 2, 3, 4, 5);
        Check.allowedEach("hold(c, 1)", Sample::full, (t, c) -> t.hold(c, 1), 1, 63);
    }

    /** "IllegalArgumentException: turns are not 0 .. 1000." */
    private static void holdTurnsFrom0To1000() {
        Check.allowedEach("hold(2, n)", Sample::busy, (t, n) -> t.hold(2, n), 0, 1000);
        Check.refusedEach("hold(2, n)", Check.ARGUMENT, Sample::busy, (t, n) -> t.hold(2, n),
                LEAST, -1, 1001, MOST);
        Check.refusedEach("hold(5, n)", Check.ARGUMENT, Sample::busy, (t, n) -> t.hold(5, n), -1, 1001);
    }

    /** The longest hold, to its last turn. */
    private static void holdOf1000Turns() {
        TurnTree t = Sample.crowded();
        t.hold(1, 1000);
        Check.due("held", t.about(1, 6), 1000);
        Check.due("turns", t.turns(999), 999);
        Check.due("held for the last one", t.about(1, 6), 1);
        Check.due("not open", t.about(1, 5), 0);
        Check.due("turn", t.turn(), true);
        Check.due("of the other", t.latest(0), 2);
        Check.due("held no more", t.about(1, 6), 0);
        Check.due("open", t.about(1, 5), 1);
        Check.due("the other is empty", t.about(2, 4), 0);
        Check.due("turns on", t.turns(1000), 1000);
    }

    /** A hold runs out also where nothing waits, and what comes meanwhile finds it. */
    private static void holdOfWhatHasNoLoad() {
        TurnTree t = Sample.leaves(1, 1);
        t.putAll(2, 1, 1, 9);
        t.hold(1, 2);
        t.turn();
        t.put(1, 1, 1);
        Check.due("held", t.about(1, 6), 1);
        Check.due("not open", t.about(1, 5), 0);
        t.turn();
        Check.due("open", t.about(1, 5), 1);
        TurnTree late = Sample.leaves(1, 1);
        late.putAll(2, 1, 1, 9);
        late.hold(1, 2);
        late.turns(2);
        Check.due("no load", late.about(1, 5), 0);
        late.put(1, 1, 1);
        Check.due("open at once", late.about(1, 5), 1);
    }

    /** "the one named first when several would do". */
    private static void holdThrowsTheOneNamedFirst() {
        Check.refusedEach("hold(0, n)", Check.INDEX, Sample::busy, (t, n) -> t.hold(0, n), -1, 1001);
        Check.refusedEach("hold(c, 1001)", Check.INDEX, Sample::busy, (t, c) -> t.hold(c, 1001), -1, 6, 64);
    }
}
