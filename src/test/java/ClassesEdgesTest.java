/** The edges that promises 2 to 5 name, sentence by sentence, each on both of its sides. */
public final class ClassesEdgesTest {
    private static final int UNIT = 65536;
    private static final int LEAST = Integer.MIN_VALUE;
    private static final int MOST = Integer.MAX_VALUE;

    public static void main(String[] args) {
        addTheLeastNumberThatNoneHas();
        addAWeightFrom1To1000();
        addALimitFrom1To2000();
        addUnderALeafWithPackets();
        addWhenThereAre64();
        addMakesALeafNoneAndKeepsItsLimit();
        addThrowsTheOneNamedFirst();
        removeALeafWithoutPackets();
        removeWhatIsNoLeaf();
        removeWhatHasPackets();
        weightFrom1To1000();
        weightSetsTheRestTo0();
        weightOfTheRoot();
        weightThrowsTheOneNamedFirst();
        moveSetsTagAndRest();
        moveOfTheRoot();
        moveUnderItselfOrUnderWhatIsUnderIt();
        moveUnderALeafWithPackets();
        moveWithAllUnderIt();
        moveTheLastOpenChildAway();
        moveInADeepTree();
        moveThrowsTheOneNamedFirst();
        Check.end();
    }

    /** "its number, the least that none has". */
    private static void addTheLeastNumberThatNoneHas() {
        TurnTree t = new TurnTree();
        for (int c = 1; c < 64; c++) {
            Check.due("none is free before", t.add(0, 1, 1), c);
        }
        t.remove(63);
        Check.due("the greatest number", t.add(0, 1, 1), 63);
        t.remove(1);
        t.remove(63);
        t.remove(30);
        Check.due("the least of three", t.add(0, 1, 1), 1);
        Check.due("the least of two", t.add(0, 1, 1), 30);
        Check.due("the last one", t.add(0, 1, 1), 63);
        Check.due("never the root's", t.count(0), 64);
    }

    /** "IllegalArgumentException: the weight is not 1 .. 1000". */
    private static void addAWeightFrom1To1000() {
        Check.allowedEach("add(0, w, 1)", Sample::busy, (t, w) -> t.add(0, w, 1), 1, 1000);
        Check.refusedEach("add(0, w, 1)", Check.ARGUMENT, Sample::busy, (t, w) -> t.add(0, w, 1),
                LEAST, -1, 0, 1001, MOST);
        TurnTree t = Sample.leaves(1, 1000);
        Check.due("the least weight", t.about(1, 1), 1);
        Check.due("the greatest weight", t.about(2, 1), 1000);
    }

    /** "or the limit not 1 .. 2000". */
    private static void addALimitFrom1To2000() {
        Check.allowedEach("add(0, 1, l)", Sample::busy, (t, l) -> t.add(0, 1, l), 1, 2000);
        Check.refusedEach("add(0, 1, l)", Check.ARGUMENT, Sample::busy, (t, l) -> t.add(0, 1, l),
                LEAST, -1, 0, 2001, MOST);
        TurnTree t = new TurnTree();
        t.add(0, 1, 1);
        t.add(0, 1, 2000);
        Check.due("the least limit", t.about(1, 7), 1);
        Check.due("the greatest limit", t.about(2, 7), 2000);
    }

    /** "IllegalStateException: the parent is a leaf with packets". */
    private static void addUnderALeafWithPackets() {
        Check.refusedEach("add(leaf, 1, 1)", Check.STATE, Sample::busy, (t, c) -> t.add(c, 1, 1), 2, 4, 5);
        Check.allowedEach("add(c, 1, 1)", Sample::busy, (t, c) -> t.add(c, 1, 1), 0, 1, 3);
        TurnTree t = Sample.busy();
        t.clear(2);
        Check.due("a leaf whose packets were dropped", t.add(2, 1, 1), 6);
        TurnTree sent = Sample.leaves(1);
        sent.put(1, 1, 1);
        sent.turn();
        Check.due("a leaf whose packet was sent", sent.add(1, 1, 1), 2);
        TurnTree above = Sample.busy();
        Check.due("a parent with packets under it alone", above.about(1, 4), 2);
        Check.due("its new child", above.add(1, 1, 1), 6);
    }

    /** "UnsupportedOperationException: there are 64". */
    private static void addWhenThereAre64() {
        TurnTree t = Sample.full();
        Check.due("64", t.count(0), 64);
        t.remove(62);
        Check.due("63", t.count(0), 63);
        Check.due("the 64th", t.add(32, 1, 1), 62);
        Check.due("64 again", t.count(0), 64);
        Check.refused("the 65th", Check.UNSUPPORTED, Sample::full, x -> x.add(0, 1, 1));
        Check.refused("the 65th under a leaf", Check.UNSUPPORTED, Sample::full, x -> x.add(62, 1000, 2000));
    }

    /** "(A leaf that gets a child is none any more; its limit is kept.)" */
    private static void addMakesALeafNoneAndKeepsItsLimit() {
        TurnTree t = new TurnTree();
        t.add(0, 1, 3);
        t.add(1, 1, 9);
        Check.due("put", Check.thrownBy(t, x -> x.put(1, 1, 1)), "IllegalStateException");
        Check.due("putAll", Check.thrownBy(t, x -> x.putAll(1, 1, 1, 1)), "IllegalStateException");
        Check.due("remove", Check.thrownBy(t, x -> x.remove(1)), "IllegalStateException");
        Check.due("packet", Check.thrownBy(t, x -> x.packet(1, 0)), "IndexOutOfBoundsException");
        Check.due("limit", t.about(1, 7), 3);
        Check.due("more packets under it than its limit", t.putAll(2, 1, 1, 9), 9);
        t.clear(2);
        t.remove(2);
        Check.due("a leaf again, with its limit", t.putAll(1, 1, 1, 9), 3);
        Check.due("limit again", t.about(1, 7), 3);
    }

    /** "the one named first when several would do". */
    private static void addThrowsTheOneNamedFirst() {
        Check.refused("no class, no weight, no limit", Check.INDEX, Sample::busy, t -> t.add(6, 0, 0));
        Check.refused("no class, 64", Check.INDEX, Sample::full, t -> t.add(64, 1, 1));
        Check.refused("no class, no weight, 64", Check.INDEX, Sample::full, t -> t.add(-1, 1001, 1));
        Check.refused("no weight, packets", Check.ARGUMENT, Sample::busy, t -> t.add(2, 0, 1));
        Check.refused("no limit, packets", Check.ARGUMENT, Sample::busy, t -> t.add(2, 1, 2001));
        Check.refused("no weight, 64", Check.ARGUMENT, Sample::full, t -> t.add(0, 1001, 1));
        Check.refused("no limit, 64", Check.ARGUMENT, Sample::full, t -> t.add(0, 1, 0));
        Check.refused("no limit, packets, 64", Check.ARGUMENT, Sample::full, t -> t.add(63, 1, 0));
        Check.refused("packets, 64", Check.STATE, Sample::full, t -> t.add(63, 1, 1));
    }

    /** "A leaf without packets is removed." */
    private static void removeALeafWithoutPackets() {
        TurnTree t = Sample.busy();
        t.remove(3);
        Check.due("it is gone", View.ofClass(t, 3), "no class");
        Check.due("removed twice", Check.thrownBy(t, x -> x.remove(3)), "IndexOutOfBoundsException");
        Check.due("classes", t.count(0), 5);
        Check.due("children of its parent", t.about(1, 3), 1);
        TurnTree last = Sample.full();
        last.clear(63);
        for (int c = 63; c >= 1; c--) {
            last.remove(c);
        }
        Check.due("the root alone is left", last.count(0), 1);
        TurnTree held = Sample.busy();
        held.hold(3, 9);
        held.remove(3);
        Check.due("a held one", held.count(0), 5);
    }

    /** "IllegalStateException: it is no leaf". */
    private static void removeWhatIsNoLeaf() {
        Check.refusedEach("remove(no leaf)", Check.STATE, Sample::busy, (t, c) -> t.remove(c), 0, 1);
        Check.refused("remove a lone root", Check.STATE, TurnTree::new, t -> t.remove(0));
        TurnTree t = Sample.leaves(1);
        t.add(1, 1, 1);
        Check.due("a parent", Check.thrownBy(t, x -> x.remove(1)), "IllegalStateException");
        t.remove(2);
        Check.due("a parent no more", Check.thrownBy(t, x -> x.remove(1)), "nothing");
        Check.due("classes", t.count(0), 1);
    }

    /** "or has packets". */
    private static void removeWhatHasPackets() {
        Check.refusedEach("remove(with packets)", Check.STATE, Sample::busy, (t, c) -> t.remove(c), 2, 4, 5);
        TurnTree t = Sample.leaves(1);
        t.put(1, 1, 1);
        Check.due("one packet", Check.thrownBy(t, x -> x.remove(1)), "IllegalStateException");
        t.turn();
        Check.due("none", Check.thrownBy(t, x -> x.remove(1)), "nothing");
    }

    /** "IllegalArgumentException: it is not 1 .. 1000." */
    private static void weightFrom1To1000() {
        Check.allowedEach("weight(2, w)", Sample::busy, (t, w) -> t.weight(2, w), 1, 1000);
        Check.refusedEach("weight(2, w)", Check.ARGUMENT, Sample::busy, (t, w) -> t.weight(2, w),
                LEAST, -1, 0, 1001, MOST);
        TurnTree t = Sample.busy();
        t.weight(1, 1000);
        Check.due("the greatest", t.about(1, 1), 1000);
        t.weight(1, 1);
        Check.due("the least", t.about(1, 1), 1);
    }

    /** "A class gets another weight (its rest is 0 then)." */
    private static void weightSetsTheRestTo0() {
        TurnTree t = Sample.leaves(3);
        t.putAll(1, 1, 1, 3);
        t.turns(2);
        Check.due("the greatest rest", t.about(1, 2), 2);
        t.weight(1, 2);
        Check.due("no rest", t.about(1, 2), 0);
        Check.due("the tag stays", t.sum(1, 0), 43690);
        t.turn();
        Check.due("the tag by the new weight", t.sum(1, 0), 43690 + UNIT / 2);
        t.weight(1, 3);
        t.put(1, 1, 1);
        t.turn();
        t.weight(1, 3);
        Check.due("no rest by the same weight", t.about(1, 2), 0);
        TurnTree above = Sample.busy();
        int rest = above.about(2, 2);
        above.weight(1, 4);
        Check.due("the rest under it stays", above.about(2, 2), rest);
        Check.due("and is not 0", rest > 0, true);
    }

    /** "IndexOutOfBoundsException (also for the root)". */
    private static void weightOfTheRoot() {
        Check.refusedEach("weight(0, w)", Check.INDEX, Sample::busy, (t, w) -> t.weight(0, w), 1, 1000);
        Check.allowedEach("weight(c, 1)", Sample::busy, (t, c) -> t.weight(c, 1), 1, 2, 3, 4, 5);
        Check.allowedEach("weight(63, w)", Sample::full, (t, w) -> t.weight(63, w), 1, 1000);
    }

    private static void weightThrowsTheOneNamedFirst() {
        Check.refusedEach("weight(0, w)", Check.INDEX, Sample::busy, (t, w) -> t.weight(0, w), 0, 1001);
        Check.refusedEach("weight(c, 0)", Check.INDEX, Sample::busy, (t, c) -> t.weight(c, 0), -1, 6, 64);
    }

    /** "its tag becomes that one's time, its rest 0": also when the tag was greater, or the same. */
    private static void moveSetsTagAndRest() {
        TurnTree t = Sample.leaves(1, 1);
        t.add(1, 7, 9);
        t.putAll(3, 1, 1, 3);
        t.turns(3);
        Check.due("time of 1", t.sum(1, 1), 2 * UNIT / 7);
        Check.due("tag of 3", t.sum(3, 0), 3 * UNIT / 7);
        Check.due("rest of 3", t.about(3, 2) > 0, true);
        t.move(3, 2);
        Check.due("a greater tag", t.sum(3, 0), 0);
        Check.due("its rest", t.about(3, 2), 0);
        t.move(3, 1);
        Check.due("a lesser tag", t.sum(3, 0), 2 * UNIT / 7);
        t.put(3, 1, 2000);
        t.turn();
        t.move(3, 1);
        Check.due("the same parent", t.sum(3, 0), 2 * UNIT / 7);
        Check.due("its rest", t.about(3, 2), 0);
        Check.due("share", t.sum(3, 2), 2003);
        t.move(3, 0);
        Check.due("to the root", t.sum(3, 0), t.sum(0, 1));
        Check.due("parent", t.about(3, 0), 0);
    }

    /** "IndexOutOfBoundsException (also for the root)". */
    private static void moveOfTheRoot() {
        Check.refusedEach("move(0, c)", Check.INDEX, Sample::busy, (t, c) -> t.move(0, c), 0, 1, 2, 3, 4, 5);
        Check.refused("move(0, 0) of a lone root", Check.INDEX, TurnTree::new, t -> t.move(0, 0));
        Check.allowedEach("move(c, 0)", Sample::busy, (t, c) -> t.move(c, 0), 1, 2, 3, 4, 5);
    }

    /** "IllegalArgumentException: the parent is it itself, or under it". */
    private static void moveUnderItselfOrUnderWhatIsUnderIt() {
        Check.refusedEach("move(c, c)", Check.ARGUMENT, Sample::busy, (t, c) -> t.move(c, c), 1, 3);
        Check.refused("move under a child", Check.ARGUMENT, Sample::busy, t -> t.move(1, 3));
        Check.refused("move under a child's child", Check.ARGUMENT, Sample::full, t -> t.move(2, 11));
        Check.refused("move to the far end", Check.ARGUMENT, Sample::full, t -> t.move(1, 62));
        Check.allowedEach("move beside", Sample::full, (t, c) -> t.move(2, c), 0, 1, 3, 7, 14, 62);
        Check.allowedEach("move what is under it", Sample::busy, (t, c) -> t.move(c, 1), 2, 3);
    }

    /** "IllegalStateException: the parent is a leaf with packets". */
    private static void moveUnderALeafWithPackets() {
        Check.refusedEach("move(3, leaf)", Check.STATE, Sample::busy, (t, c) -> t.move(3, c), 2, 4, 5);
        Check.refused("move(2, 4)", Check.STATE, Sample::busy, t -> t.move(2, 4));
        Check.allowedEach("move(4, c)", Sample::busy, (t, c) -> t.move(4, c), 0, 1, 3);
        TurnTree t = Sample.busy();
        t.clear(2);
        t.move(4, 2);
        Check.due("under a leaf whose packets were dropped", t.about(4, 0), 2);
        Check.due("which is none any more",
                Check.thrownBy(t, x -> x.put(2, 1, 1)), "IllegalStateException");
    }

    /** "A class comes, with all under it, under another parent". */
    private static void moveWithAllUnderIt() {
        TurnTree t = Sample.busy();
        String two = View.ofClass(t, 2);
        String three = View.ofClass(t, 3);
        t.clear(4);
        t.move(1, 4);
        Check.due("class 2", View.ofClass(t, 2), two);
        Check.due("class 3", View.ofClass(t, 3), three);
        Check.due("packets of 4", t.about(4, 4), 2);
        Check.due("children of 4", t.about(4, 3), 1);
        Check.due("children of the root", t.about(0, 3), 2);
        Check.due("4 is open", t.about(4, 5), 1);
        Check.due("classes", t.count(0), 6);
        TurnTree held = Sample.busy();
        held.move(5, 3);
        Check.due("a held class stays held", held.about(5, 6), 28);
        Check.due("and opens nothing", held.about(3, 5), 0);
    }

    /** An open class must be among the children: of two open ones one may go, not the other as well. */
    private static void moveTheLastOpenChildAway() {
        TurnTree t = Sample.leaves(1, 1);
        for (int c = 3; c <= 5; c++) {
            t.add(1, 1, 9);
        }
        t.put(3, 1, 1);
        t.put(4, 1, 1);
        t.move(3, 2);
        Check.due("one open child is left", t.about(1, 5), 1);
        Check.due("the new parent is open", t.about(2, 5), 1);
        t.move(4, 2);
        Check.due("an empty child alone is left", t.about(1, 5), 0);
        t.move(4, 1);
        Check.due("the open one is back", t.about(1, 5), 1);
        Check.due("one is still there", t.about(2, 5), 1);
        t.hold(4, 1);
        t.move(4, 2);
        t.move(5, 2);
        Check.due("a leaf without packets", t.about(1, 5), 0);
        Check.due("turns", t.turns(9), 2);
        Check.due("closed", t.about(2, 5), 0);
    }

    /** 63 classes under one another are as deep as a tree can be. */
    private static void moveInADeepTree() {
        TurnTree t = new TurnTree();
        for (int c = 0; c < 63; c++) {
            t.add(c, 1, 1);
        }
        Check.due("to the far end", Check.thrownBy(t, x -> x.move(1, 63)), "IllegalArgumentException");
        t.put(63, 1, 1);
        t.move(32, 0);
        Check.due("1 has closed", t.about(1, 5), 0);
        Check.due("31 is a leaf", t.put(31, 2, 1), true);
        Check.due("turns", t.turns(3), 2);
        Check.due("the greater number comes last", t.latest(0), 63);
    }

    /** "the one named first when several would do". */
    private static void moveThrowsTheOneNamedFirst() {
        Check.refused("no class, itself", Check.INDEX, Sample::busy, t -> t.move(6, 6));
        Check.refused("the root, itself", Check.INDEX, Sample::busy, t -> t.move(0, 0));
        Check.refused("the root, under it", Check.INDEX, Sample::busy, t -> t.move(0, 3));
        Check.refused("the root, packets", Check.INDEX, Sample::busy, t -> t.move(0, 4));
        Check.refused("the root, no parent", Check.INDEX, Sample::busy, t -> t.move(0, 64));
        Check.refused("no class, packets", Check.INDEX, Sample::busy, t -> t.move(64, 2));
        Check.refused("itself, with packets", Check.ARGUMENT, Sample::busy, t -> t.move(2, 2));
        Check.refused("under it, with packets", Check.ARGUMENT, Sample::busy, t -> t.move(1, 2));
    }
}
