/** The edges that promises 6, 7, 11 and 14 name, sentence by sentence, each on both of its sides. */
public final class PacketsEdgesTest {
    private static final int LEAST = Integer.MIN_VALUE;
    private static final int MOST = Integer.MAX_VALUE;

    public static void main(String[] args) {
        putIfItHasAsManyAsItsLimit();
        putWhereIsNoLeaf();
        putNoLength();
        putWhenThereAre2000();
        putThrowsTheOneNamedFirst();
        putAllIdsOneAfterAnother();
        putAllIdsWrap();
        putAllUntilOneIsDropped();
        putAllUntilThereAre2000();
        putAllInAFullLeafAt2000();
        putAllWhereIsNoLeaf();
        putAllNoLength();
        putAllNFrom0To500();
        putAllThrowsTheOneNamedFirst();
        clearAllInAClassOrUnderIt();
        clearWithoutPackets();
        clearAtTheEdges();
        packetFromTheFirstToTheLast();
        packetOfWhatIsNoLeaf();
        Check.end();
    }

    /** "whether there was room in it; else (if it has as many as its limit) it is dropped". */
    private static void putIfItHasAsManyAsItsLimit() {
        TurnTree t = new TurnTree();
        t.add(0, 1, 3);
        for (int i = 0; i < 3; i++) {
            Check.due("packet " + i, t.put(1, i, 10), true);
            Check.due("none is dropped", t.count(4), 0);
        }
        String full = View.ofClass(t, 1);
        Check.due("one too many", t.put(1, 3, 10), false);
        Check.due("one is dropped", t.count(4), 1);
        Check.due("the leaf is as it was", View.ofClass(t, 1), full);
        Check.due("packets", t.count(1), 3);
        t.turn();
        Check.due("room behind a turn", t.put(1, 4, 10), true);
        Check.due("no room again", t.put(1, 5, 10), false);
        t.clear(1);
        Check.due("room behind a clear", t.put(1, 6, 10), true);
        t.hold(1, 9);
        Check.due("room in a held leaf", t.put(1, 7, 10), true);
        Check.due("the last room", t.put(1, 8, 10), true);
        Check.due("no room in a held leaf", t.put(1, 9, 10), false);
        Check.due("dropped", t.count(4), 6);
    }

    /** "IllegalStateException: it is no leaf". */
    private static void putWhereIsNoLeaf() {
        Check.refusedEach("put(c, 1, 1)", Check.STATE, Sample::busy, (t, c) -> t.put(c, 1, 1), 0, 1);
        Check.allowedEach("put(c, 1, 1)", Sample::busy, (t, c) -> t.put(c, 1, 1), 2, 3, 4, 5);
    }

    /** "IllegalArgumentException: no length": a LENGTH is 1 .. 2000. */
    private static void putNoLength() {
        Check.allowedEach("put(3, 1, l)", Sample::busy, (t, l) -> t.put(3, 1, l), 1, 2000);
        Check.refusedEach("put(3, 1, l)", Check.ARGUMENT, Sample::busy, (t, l) -> t.put(3, 1, l),
                LEAST, -1, 0, 2001, MOST);
        Check.refusedEach("put in a full leaf", Check.ARGUMENT, Sample::busy, (t, l) -> t.put(5, 1, l),
                0, 2001);
    }

    /** "UnsupportedOperationException: there are 2000 packets". */
    private static void putWhenThereAre2000() {
        Check.due("packets", Sample.crowded().count(1), 2000);
        Check.refusedEach("put(c, 1, 1)", Check.UNSUPPORTED, Sample::crowded, (t, c) -> t.put(c, 1, 1),
                1, 2, 4);
        TurnTree t = Sample.crowded();
        t.turn();
        Check.due("1999, a leaf with room", t.put(2, 1, 1), true);
        Check.due("2000", Check.thrownBy(t, x -> x.put(2, 1, 1)), "UnsupportedOperationException");
        TurnTree full = Sample.crowded();
        full.hold(1, 9);
        full.turn();
        Check.due("1999, a full leaf", full.put(1, 1, 1), false);
        Check.due("1999 still", full.count(1), 1999);
        Check.due("one is dropped", full.count(4), 1);
    }

    /** "the one named first when several would do". */
    private static void putThrowsTheOneNamedFirst() {
        Check.refused("no class, no length", Check.INDEX, Sample::busy, t -> t.put(6, 1, 0));
        Check.refused("no class, 2000", Check.INDEX, Sample::crowded, t -> t.put(5, 1, 1));
        Check.refused("no class, no length, 2000", Check.INDEX, Sample::crowded, t -> t.put(64, 1, 2001));
        Check.refused("no leaf, no length", Check.STATE, Sample::busy, t -> t.put(1, 1, 0));
        Check.refused("no leaf, 2000", Check.STATE, Sample::crowded, t -> t.put(3, 1, 1));
        Check.refused("no leaf, no length, 2000", Check.STATE, Sample::crowded, t -> t.put(0, 1, 2001));
        Check.refused("no length, 2000", Check.ARGUMENT, Sample::crowded, t -> t.put(2, 1, 0));
    }

    /** "n packets come to a leaf one after another, with ids id, id + 1, .., all of a length". */
    private static void putAllIdsOneAfterAnother() {
        TurnTree t = Sample.leaves(1);
        t.put(1, 7, 3);
        Check.due("putAll", t.putAll(1, -1, 2000, 3), 3);
        Check.due("class 1", View.ofClass(t, 1),
                "about 0 1 0 0 4 1 0 2000 sums 0 0 0 6003 children packets 7 -1 0 1");
        t.turns(2);
        Check.due("length", t.latest(2), 2000);
        Check.due("id", t.latest(1), -1);
    }

    /** "(wrapping)". */
    private static void putAllIdsWrap() {
        TurnTree t = Sample.leaves(1);
        t.putAll(1, MOST - 1, 1, 2);
        Check.due("the greatest id", t.packet(1, 1), MOST);
        t.clear(1);
        Check.due("one more", t.putAll(1, MOST - 1, 1, 4), 4);
        int[] ids = {MOST - 1, MOST, LEAST, LEAST + 1};
        for (int k = 0; k < ids.length; k++) {
            Check.due("packet(1, " + k + ")", t.packet(1, k), ids[k]);
        }
        t.turns(3);
        Check.due("the least id is sent", t.latest(1), LEAST);
        t.clear(1);
        t.putAll(1, LEAST, 1, 500);
        Check.due("from the least id on", t.packet(1, 499), LEAST + 499);
    }

    /** "until one is dropped": that one counts, those that would follow do not. */
    private static void putAllUntilOneIsDropped() {
        TurnTree t = new TurnTree();
        t.add(0, 1, 4);
        Check.due("one less than there is room for", t.putAll(1, 0, 1, 3), 3);
        t.clear(1);
        Check.due("as many as there is room for", t.putAll(1, 0, 1, 4), 4);
        Check.due("none is dropped but by clear()", t.count(4), 3);
        t.clear(1);
        Check.due("one more than there is room for", t.putAll(1, 0, 1, 5), 4);
        Check.due("one is dropped", t.count(4), 8);
        t.clear(1);
        Check.due("many more", t.putAll(1, 0, 1, 500), 4);
        Check.due("one is dropped again", t.count(4), 13);
        Check.due("none stays in a full leaf", t.putAll(1, 0, 1, 1), 0);
        Check.due("one is dropped there", t.count(4), 14);
        Check.due("n = 0 in a full leaf", t.putAll(1, 0, 1, 0), 0);
        Check.due("none is dropped there", t.count(4), 14);
    }

    /** "or there are 2000: how many stay". */
    private static void putAllUntilThereAre2000() {
        TurnTree t = Sample.crowded();
        t.turns(3);
        Check.due("one less than 2000", t.putAll(4, 0, 1, 2), 2);
        t.turns(2);
        Check.due("just 2000", t.putAll(4, 0, 1, 3), 3);
        t.turns(3);
        Check.due("one more than 2000", t.putAll(4, 0, 1, 4), 3);
        Check.due("2000", t.count(1), 2000);
        Check.due("at 2000", t.putAll(2, 0, 1, 500), 0);
        Check.due("n = 0 at 2000", t.putAll(2, 0, 1, 0), 0);
        Check.due("none is dropped", t.count(4), 0);
    }

    /** The leaf is full as well: there are 2000, so none comes that could be dropped. */
    private static void putAllInAFullLeafAt2000() {
        TurnTree t = Sample.crowded();
        Check.due("at 2000", t.putAll(1, 0, 1, 5), 0);
        Check.due("none is dropped", t.count(4), 0);
        t.hold(1, 9);
        t.turn();
        Check.due("at 1999", t.putAll(1, 0, 1, 5), 0);
        Check.due("one is dropped", t.count(4), 1);
        TurnTree both = new TurnTree();
        both.add(0, 1, 2000);
        for (int i = 0; i < 4; i++) {
            both.putAll(1, 0, 1, 499);
        }
        Check.due("the leaf is full just at 2000", both.putAll(1, 0, 1, 5), 4);
        Check.due("none is dropped", both.count(4), 0);
    }

    /** "IllegalStateException: it is no leaf". */
    private static void putAllWhereIsNoLeaf() {
        Check.refusedEach("putAll(c, 1, 1, 1)", Check.STATE, Sample::busy, (t, c) -> t.putAll(c, 1, 1, 1),
                0, 1);
        Check.refusedEach("putAll(c, 1, 1, 0)", Check.STATE, Sample::busy, (t, c) -> t.putAll(c, 1, 1, 0),
                0, 1);
        Check.allowedEach("putAll(c, 1, 1, 1)", Sample::busy, (t, c) -> t.putAll(c, 1, 1, 1), 2, 3, 4, 5);
    }

    /** "IllegalArgumentException: no length". */
    private static void putAllNoLength() {
        Check.allowedEach("putAll(3, 1, l, 2)", Sample::busy, (t, l) -> t.putAll(3, 1, l, 2), 1, 2000);
        Check.refusedEach("putAll(3, 1, l, 2)", Check.ARGUMENT, Sample::busy, (t, l) -> t.putAll(3, 1, l, 2),
                LEAST, -1, 0, 2001, MOST);
        Check.refusedEach("putAll(3, 1, l, 0)", Check.ARGUMENT, Sample::busy, (t, l) -> t.putAll(3, 1, l, 0),
                0, 2001);
    }

    /** "or n is not 0 .. 500". */
    private static void putAllNFrom0To500() {
        TurnTree t = Sample.leaves(1);
        Check.due("n = 0", t.putAll(1, 1, 1, 0), 0);
        Check.due("n = 1", t.putAll(1, 1, 1, 1), 1);
        Check.due("n = 500", t.putAll(1, 1, 1, 500), 500);
        Check.due("packets", t.count(1), 501);
        Check.refusedEach("putAll(2, 1, 1, n)", Check.ARGUMENT, Sample::busy, (x, n) -> x.putAll(2, 1, 1, n),
                LEAST, -1, 501, MOST);
        Check.refusedEach("putAll at 2000", Check.ARGUMENT, Sample::crowded, (x, n) -> x.putAll(2, 1, 1, n),
                -1, 501);
    }

    /** "the one named first when several would do". */
    private static void putAllThrowsTheOneNamedFirst() {
        Check.refused("no class, no length", Check.INDEX, Sample::busy, t -> t.putAll(6, 1, 0, 1));
        Check.refused("no class, no n", Check.INDEX, Sample::busy, t -> t.putAll(-1, 1, 1, 501));
        Check.refused("no leaf, no length", Check.STATE, Sample::busy, t -> t.putAll(1, 1, 2001, 1));
        Check.refused("no leaf, no n", Check.STATE, Sample::busy, t -> t.putAll(0, 1, 1, -1));
    }

    /** "All packets in a class or under it are dropped: how many." */
    private static void clearAllInAClassOrUnderIt() {
        TurnTree leaf = Sample.busy();
        Check.due("a leaf", leaf.clear(2), 2);
        Check.due("the others keep theirs", View.ofAll(leaf), "counts 6 3 1 2 3 latest 4 40 64");
        TurnTree above = Sample.busy();
        Check.due("a parent", above.clear(1), 2);
        Check.due("the others keep theirs", View.ofAll(above), "counts 6 3 1 2 3 latest 4 40 64");
        TurnTree root = Sample.busy();
        Check.due("the root", root.clear(0), 5);
        Check.due("none is left", View.ofAll(root), "counts 6 0 0 2 6 latest 4 40 64");
        Check.due("no bytes", root.sum(0, 3), 0);
        TurnTree held = Sample.busy();
        Check.due("a held leaf", held.clear(5), 2);
        Check.due("held still", held.about(5, 6), 28);
        Check.due("under a deep tree", Sample.full().clear(1), 1);
        Check.due("beside it", Sample.full().clear(2), 0);
    }

    /** "how many": none, which changes nothing. */
    private static void clearWithoutPackets() {
        TurnTree t = Sample.busy();
        String before = View.ofClass(t, 3);
        Check.due("an empty leaf", t.clear(3), 0);
        Check.due("class 3", View.ofClass(t, 3), before);
        Check.due("a leaf", t.clear(4), 1);
        Check.due("twice", t.clear(4), 0);
        Check.due("dropped", t.count(4), 2);
    }

    /** 2000 packets at once; and the numbers 0 and 63. */
    private static void clearAtTheEdges() {
        TurnTree t = Sample.crowded();
        Check.due("all 2000", t.clear(0), 2000);
        Check.due("dropped", t.count(4), 2000);
        Check.due("packets", t.count(1), 0);
        Check.due("turn", t.turn(), false);
        for (int i = 0; i < 4; i++) {
            Check.due("2000 anew, " + i, t.putAll(2, 0, 1, 500), 500);
        }
        Check.due("the leaf 63", Sample.full().clear(63), 1);
        Check.refusedEach("clear(c)", Check.INDEX, Sample::full, (x, c) -> x.clear(c), LEAST, -1, 64, MOST);
    }

    /** "The id of the k-th packet of a leaf. IndexOutOfBoundsException: also when there are not so many". */
    private static void packetFromTheFirstToTheLast() {
        TurnTree t = Sample.busy();
        Check.due("the first", t.packet(2, 0), 21);
        Check.due("the last", t.packet(2, 1), 22);
        Check.due("one alone", t.packet(4, 0), 41);
        Check.due("of a held leaf", t.packet(5, 1), 51);
        Check.refusedEach("packet(2, k)", Check.INDEX, Sample::busy, (x, k) -> x.packet(2, k),
                LEAST, -1, 2, MOST);
        Check.refusedEach("packet(3, k)", Check.INDEX, Sample::busy, (x, k) -> x.packet(3, k), -1, 0);
        Check.refusedEach("packet(4, k)", Check.INDEX, Sample::busy, (x, k) -> x.packet(4, k), -1, 1);
        TurnTree large = Sample.crowded();
        Check.due("the 1000th", large.packet(2, 999), 999);
        Check.due("the 1001st", Check.thrownBy(large, x -> x.packet(2, 1000)), "IndexOutOfBoundsException");
        t.turns(3);
        Check.due("behind the last turn", Check.thrownBy(t, x -> x.packet(2, 0)), "IndexOutOfBoundsException");
    }

    /** "or it is no leaf". */
    private static void packetOfWhatIsNoLeaf() {
        Check.refusedEach("packet(c, 0)", Check.INDEX, Sample::busy, (t, c) -> t.packet(c, 0), 0, 1);
        Check.refusedEach("packet(c, 1)", Check.INDEX, Sample::busy, (t, c) -> t.packet(c, 1), 0, 1);
    }
}
