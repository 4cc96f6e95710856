import java.util.List;
import java.util.function.Consumer;
import java.util.function.Supplier;

/** The edges that "Terms" names, sentence by sentence, and promise 1; each on both of its sides. */
public final class TermsEdgesTest {
    private static final int UNIT = 65536;
    private static final int LEAST = Integer.MIN_VALUE;
    private static final int MOST = Integer.MAX_VALUE;
    /** Numbers that no class of Sample.busy() has: 6 was removed, 63 never made. */
    private static final int[] NO_CLASS = {LEAST, -1, 6, 63, 64, MOST};

    public static void main(String[] args) {
        theRootAlone();
        numbersFrom0To63();
        noSuchClass();
        aChildlessRootIsNoLeaf();
        aClassWithoutChildrenIsALeaf();
        asManyPacketsAsTheLimitSays();
        firstInFirstOut();
        allLeavesTogetherAtMost2000();
        anIdIsAnyInt();
        aLengthFrom1To2000();
        loadOfTheLastPacket();
        openIfItHasLoad();
        openIfItIsNotHeld();
        openIfAnOpenClassIsAmongItsChildren();
        allIs0AtFirst();
        aRestFrom0ToWeightLess1();
        aTimeThatIsGreaterByOne();
        aTimeThatIsEqual();
        aTimeThatIsLessByOne();
        becomesOpenByACall();
        becomesOpenByThePacketOfPutAll();
        becomesOpenByATurn();
        staysAsItWasWhileOpen();
        severalBecomeOpenAtOnce();
        theLeastTagThenTheLeastNumber();
        aTagThatIsLessByOne();
        roundedDown();
        theRootGetsNoTag();
        behindThatTurnItIsHeldNoMore();
        callsThatThrowChangeNothing();
        the512thCall();
        Check.end();
    }

    private static int outcome(boolean answer) {
        return answer ? 1 : 0;
    }

    /** "The root alone." */
    private static void theRootAlone() {
        TurnTree t = new TurnTree();
        Check.due("all", View.ofAll(t), "counts 1 0 0 0 0 latest -1 0 -1");
        Check.due("the root", View.ofClass(t, 0), "about -1 0 0 0 0 0 0 0 sums 0 0 0 0 children packets");
        for (int c = 1; c < 64; c++) {
            Check.due("class " + c, View.ofClass(t, c), "no class");
        }
        Check.due("turn()", t.turn(), false);
        Check.due("turns(1000)", t.turns(1000), 0);
        Check.due("clear(0)", t.clear(0), 0);
        Check.due("the first class", t.add(0, 1, 1), 1);
        Check.due("another object is another tree", new TurnTree().count(0), 1);
    }

    /** "CLASSES have numbers 0 .. 63". */
    private static void numbersFrom0To63() {
        TurnTree t = Sample.full();
        Check.due("parent of 63", t.about(63, 0), 31);
        Check.due("parent of 0", t.about(0, 0), TurnTree.NONE);
        Check.due("turn", t.turn(), true);
        Check.due("leaf", t.latest(0), 63);
        Check.refusedEach("about(c, 0)", Check.INDEX, Sample::full, (x, c) -> x.about(c, 0),
                LEAST, -1, 64, MOST);
    }

    /** "IndexOutOfBoundsException: there is no such class." */
    private static void noSuchClass() {
        Check.refusedEach("add(c, 1, 1)", Check.INDEX, Sample::busy, (t, c) -> t.add(c, 1, 1), NO_CLASS);
        Check.refusedEach("remove(c)", Check.INDEX, Sample::busy, (t, c) -> t.remove(c), NO_CLASS);
        Check.refusedEach("weight(c, 1)", Check.INDEX, Sample::busy, (t, c) -> t.weight(c, 1), NO_CLASS);
        Check.refusedEach("move(c, 0)", Check.INDEX, Sample::busy, (t, c) -> t.move(c, 0), NO_CLASS);
        Check.refusedEach("move(2, c)", Check.INDEX, Sample::busy, (t, c) -> t.move(2, c), NO_CLASS);
        Check.refusedEach("put(c, 1, 1)", Check.INDEX, Sample::busy, (t, c) -> t.put(c, 1, 1), NO_CLASS);
        Check.refusedEach("putAll(c, 1, 1, 1)", Check.INDEX, Sample::busy, (t, c) -> t.putAll(c, 1, 1, 1),
                NO_CLASS);
        Check.refusedEach("clear(c)", Check.INDEX, Sample::busy, (t, c) -> t.clear(c), NO_CLASS);
        Check.refusedEach("hold(c, 1)", Check.INDEX, Sample::busy, (t, c) -> t.hold(c, 1), NO_CLASS);
        Check.refusedEach("child(c, 0)", Check.INDEX, Sample::busy, (t, c) -> t.child(c, 0), NO_CLASS);
        Check.refusedEach("packet(c, 0)", Check.INDEX, Sample::busy, (t, c) -> t.packet(c, 0), NO_CLASS);
        Check.refusedEach("sum(c, 0)", Check.INDEX, Sample::busy, (t, c) -> t.sum(c, 0), NO_CLASS);
        Check.refusedEach("about(c, 0)", Check.INDEX, Sample::busy, (t, c) -> t.about(c, 0), NO_CLASS);
    }

    /** "A class without children (and not the root) is a LEAF". */
    private static void aChildlessRootIsNoLeaf() {
        Check.refused("put", Check.STATE, TurnTree::new, t -> t.put(0, 1, 1));
        Check.refused("putAll", Check.STATE, TurnTree::new, t -> t.putAll(0, 1, 1, 1));
        Check.refused("remove", Check.STATE, TurnTree::new, t -> t.remove(0));
        Check.refused("packet", Check.INDEX, TurnTree::new, t -> t.packet(0, 0));
        TurnTree t = new TurnTree();
        t.add(0, 1, 1);
        t.remove(1);
        Check.due("put in a root that is childless again",
                Check.thrownBy(t, x -> x.put(0, 1, 1)), "IllegalStateException");
    }

    /** "A class without children (and not the root) is a LEAF", as soon and as long as it has none. */
    private static void aClassWithoutChildrenIsALeaf() {
        TurnTree t = Sample.leaves(1, 1);
        Check.due("a new class", t.put(1, 1, 1), true);
        t.clear(1);
        t.add(1, 1, 1);
        Check.due("with a child", Check.thrownBy(t, x -> x.put(1, 1, 1)), "IllegalStateException");
        t.remove(3);
        Check.due("its child was removed", t.put(1, 1, 1), true);
        t.clear(1);
        t.move(2, 1);
        Check.due("with a moved child", Check.thrownBy(t, x -> x.put(1, 1, 1)), "IllegalStateException");
        Check.due("the moved child", t.put(2, 1, 1), true);
        t.move(2, 0);
        Check.due("its child was moved away", t.put(1, 1, 1), true);
        Check.due("open leaves", t.count(2), 2);
    }

    /** "it has up to so many PACKETS as its LIMIT says". */
    private static void asManyPacketsAsTheLimitSays() {
        TurnTree t = new TurnTree();
        t.add(0, 1, 1);
        t.add(0, 1, 2);
        Check.due("limit 1, 1st", t.put(1, 1, 1), true);
        Check.due("limit 1, 2nd", t.put(1, 2, 1), false);
        Check.due("limit 2, 1st", t.put(2, 1, 1), true);
        Check.due("limit 2, 2nd", t.put(2, 2, 1), true);
        Check.due("limit 2, 3rd", t.put(2, 3, 1), false);
        Check.due("packets of 1", t.about(1, 4), 1);
        Check.due("packets of 2", t.about(2, 4), 2);
        TurnTree large = Sample.leaves(1);
        for (int i = 0; i < 4; i++) {
            Check.due("limit 2000, " + i, large.putAll(1, 500 * i, 1, 500), 500);
        }
        Check.due("packets of a limit of 2000", large.about(1, 4), 2000);
        Check.due("its last one", large.packet(1, 1999), 1999);
        TurnTree less = new TurnTree();
        less.add(0, 1, 1999);
        for (int i = 0; i < 3; i++) {
            less.putAll(1, 0, 1, 500);
        }
        Check.due("limit 1999, the last 499", less.putAll(1, 0, 1, 500), 499);
        Check.due("limit 1999, one more", less.put(1, 0, 1), false);
    }

    /** "first in, first out". */
    private static void firstInFirstOut() {
        TurnTree t = Sample.leaves(1);
        t.put(1, 5, 1);
        t.put(1, 3, 2);
        t.put(1, 4, 3);
        int[] ids = {5, 3, 4};
        for (int i = 0; i < ids.length; i++) {
            Check.due("in line", t.packet(1, 0), ids[i]);
            t.turn();
            Check.due("id of turn " + i, t.latest(1), ids[i]);
            Check.due("length of turn " + i, t.latest(2), i + 1);
        }
    }

    /** "all leaves together at most 2000". */
    private static void allLeavesTogetherAtMost2000() {
        TurnTree t = Sample.crowded();
        t.turn();
        Check.due("1999", t.count(1), 1999);
        Check.due("the 2000th", t.put(4, 1, 1), true);
        Check.due("the 2001st", Check.thrownBy(t, x -> x.put(4, 2, 1)), "UnsupportedOperationException");
        Check.due("the 2001st of putAll", t.putAll(4, 2, 1, 1), 0);
        Check.due("2000", t.count(1), 2000);
        t.clear(4);
        Check.due("the 2000th behind a clear", t.put(2, 1, 1), true);
        Check.due("2000 again", t.count(1), 2000);
    }

    /** "A packet has an id (an int)". */
    private static void anIdIsAnyInt() {
        TurnTree t = Sample.leaves(1);
        int[] ids = {LEAST, -1, 0, 1, MOST, 0};
        for (int id : ids) {
            t.put(1, id, 1);
        }
        for (int k = 0; k < ids.length; k++) {
            Check.due("packet(1, " + k + ")", t.packet(1, k), ids[k]);
        }
        for (int id : ids) {
            t.turn();
            Check.due("latest(1)", t.latest(1), id);
        }
    }

    /** "and a LENGTH, 1 .. 2000". */
    private static void aLengthFrom1To2000() {
        TurnTree t = Sample.leaves(1);
        Check.due("length 1", t.put(1, 1, 1), true);
        Check.due("length 2000", t.put(1, 1, 2000), true);
        Check.due("bytes", t.sum(1, 3), 2001);
        t.turn();
        Check.due("tag of length 1", t.sum(1, 0), UNIT);
        t.turn();
        Check.due("tag of length 2000", t.sum(1, 0), 2001L * UNIT);
        Check.due("share", t.sum(1, 2), 2001);
        Check.refusedEach("length", Check.ARGUMENT, Sample::busy, (x, n) -> x.put(3, 1, n),
                LEAST, -1, 0, 2001, MOST);
    }

    /** "A class has LOAD if a packet is in it, or in a leaf under it": to the last packet. */
    private static void loadOfTheLastPacket() {
        TurnTree t = new TurnTree();
        t.add(0, 1, 9);
        t.add(1, 1, 9);
        t.add(2, 1, 9);
        t.putAll(3, 1, 1, 2);
        t.turn();
        for (int c = 0; c <= 3; c++) {
            Check.due("one packet, class " + c, t.about(c, 5), 1);
        }
        t.turn();
        for (int c = 0; c <= 3; c++) {
            Check.due("no packet, class " + c, t.about(c, 5), 0);
        }
    }

    /** "it is OPEN if it has load". */
    private static void openIfItHasLoad() {
        TurnTree t = Sample.leaves(1);
        Check.due("none", t.about(1, 5), 0);
        t.putAll(1, 1, 1, 0);
        Check.due("n = 0", t.about(1, 5), 0);
        t.put(1, 1, 1);
        Check.due("one", t.about(1, 5), 1);
        t.clear(1);
        Check.due("cleared", t.about(1, 5), 0);
    }

    /** "and is not HELD". */
    private static void openIfItIsNotHeld() {
        TurnTree t = Sample.busy();
        Check.due("held", t.about(5, 5), 0);
        t.hold(5, 0);
        Check.due("not held", t.about(5, 5), 1);
        t.hold(1, 1);
        Check.due("a held parent", t.about(1, 5), 0);
        Check.due("the open leaf under it", t.about(2, 5), 1);
    }

    /** "and, if it is no leaf, an open class is among its children". */
    private static void openIfAnOpenClassIsAmongItsChildren() {
        TurnTree t = new TurnTree();
        t.add(0, 1, 9);
        t.add(1, 1, 9);
        t.add(1, 1, 9);
        t.put(2, 1, 1);
        t.put(3, 1, 1);
        t.hold(2, 5);
        Check.due("one child of two is held", t.about(1, 5), 1);
        t.hold(3, 5);
        Check.due("both children are held", t.about(1, 5), 0);
        Check.due("though not held itself", t.about(1, 6), 0);
        Check.due("and with load", t.about(1, 4), 2);
        Check.due("the root", t.about(0, 5), 0);
        Check.due("turn", t.turn(), false);
        t.hold(3, 0);
        Check.due("one is held no more", t.about(1, 5), 1);
        t.hold(1, 5);
        Check.due("the root over a held class", t.about(0, 5), 0);
    }

    /** "A class has a TAG, a REST (0 .. weight - 1) and a TIME, all 0 at first." */
    private static void allIs0AtFirst() {
        TurnTree t = Sample.busy();
        t.turn();
        t.turn();
        Check.due("the time of the root has grown", t.sum(0, 1) > 0, true);
        Check.due("number", t.add(0, 1000, 2000), 6);
        Check.due("a class among others with tags", View.ofClass(t, 6),
                "about 0 1000 0 0 0 0 0 2000 sums 0 0 0 0 children packets");
    }

    /** "a REST (0 .. weight - 1)": 65536 leaves 1 by 3, so the rests of one byte each are 1, 2, 0. */
    private static void aRestFrom0ToWeightLess1() {
        TurnTree t = Sample.leaves(3);
        t.putAll(1, 1, 1, 3);
        int[] tags = {21845, 43690, 65536};
        int[] rests = {1, 2, 0};
        for (int i = 0; i < 3; i++) {
            t.turn();
            Check.due("tag " + i, t.sum(1, 0), tags[i]);
            Check.due("rest " + i, t.about(1, 2), rests[i]);
        }
        TurnTree one = Sample.leaves(1);
        one.put(1, 1, 1999);
        one.turn();
        Check.due("the rest of weight 1", one.about(1, 2), 0);
        TurnTree most = Sample.leaves(1000);
        most.put(1, 1, 1625);
        most.turn();
        Check.due("no rest of weight 1000", most.about(1, 2), 0);
        Check.due("its tag", most.sum(1, 0), 106496);
        TurnTree prime = Sample.leaves(997);
        prime.put(1, 1, 506);
        prime.turn();
        Check.due("the greatest rest of weight 997", prime.about(1, 2), 996);
        Check.due("its tag", prime.sum(1, 0), 33260);
    }

    /**
     * The leaf 1 is empty, its tag 65536 / weight1 and its rest what that leaves; the time of the root
     * is 65536 / weight2; then a packet opens the leaf 1.
     */
    private static TurnTree opened(int weight1, int weight2) {
        TurnTree t = Sample.leaves(weight1, weight2);
        t.put(1, 1, 1);
        t.turn();
        t.putAll(2, 1, 1, 3);
        t.turns(2);
        Check.due("time", t.sum(0, 1), UNIT / weight2);
        Check.due("tag before", t.sum(1, 0), UNIT / weight1);
        Check.due("rest before", t.about(1, 2), UNIT % weight1);
        t.put(1, 1, 1);
        return t;
    }

    /** "its tag becomes the time of its parent, if that is greater, and its rest 0 then". */
    private static void aTimeThatIsGreaterByOne() {
        TurnTree t = opened(1000, 992);
        Check.due("tag", t.sum(1, 0), 66);
        Check.due("rest", t.about(1, 2), 0);
    }

    /** "else both stay": the time is the tag. */
    private static void aTimeThatIsEqual() {
        TurnTree t = opened(1000, 999);
        Check.due("tag", t.sum(1, 0), 65);
        Check.due("rest", t.about(1, 2), 536);
    }

    /** "else both stay": the time is less than the tag. */
    private static void aTimeThatIsLessByOne() {
        TurnTree t = opened(992, 1000);
        Check.due("tag", t.sum(1, 0), 66);
        Check.due("rest", t.about(1, 2), 64);
    }

    /** The time of the root is 20 bytes' worth; the leaf 3 under 1 is empty, with a tag of 0. */
    private static TurnTree late() {
        TurnTree t = Sample.leaves(1, 1);
        t.add(1, 1, 9);
        t.putAll(2, 1, 10, 9);
        t.turns(3);
        return t;
    }

    /** "When a class becomes open (by a call, ..)": each call that can do it. */
    private static void becomesOpenByACall() {
        TurnTree put = late();
        Check.due("before", put.sum(1, 0), 0);
        put.put(3, 1, 1);
        Check.due("by put()", put.sum(1, 0), 20 * UNIT);
        TurnTree held = late();
        held.hold(1, 9);
        held.put(3, 1, 1);
        Check.due("not yet", held.sum(1, 0), 0);
        held.hold(1, 0);
        Check.due("by hold() of it", held.sum(1, 0), 20 * UNIT);
        TurnTree below = late();
        below.hold(3, 9);
        below.put(3, 1, 1);
        Check.due("not yet", below.sum(1, 0), 0);
        below.hold(3, 0);
        Check.due("by hold() under it", below.sum(1, 0), 20 * UNIT);
        TurnTree moved = late();
        moved.move(2, 1);
        Check.due("by move()", moved.sum(1, 0), 20 * UNIT);
        Check.due("what was moved", moved.sum(2, 0), 0);
    }

    /** "a packet of putAll()": the first one opens, those behind it find the class open. */
    private static void becomesOpenByThePacketOfPutAll() {
        TurnTree t = late();
        t.putAll(3, 1, 1, 0);
        Check.due("no packet", t.sum(1, 0), 0);
        t.putAll(3, 1, 1, 1);
        Check.due("one packet", t.sum(1, 0), 20 * UNIT);
        TurnTree more = late();
        Check.due("more packets than there is room for", more.putAll(3, 1, 1, 10), 9);
        Check.due("tag", more.sum(1, 0), 20 * UNIT);
        Check.due("open", more.about(1, 5), 1);
    }

    /** "or a turn, before which it was not": it takes the time that this turn has set. */
    private static void becomesOpenByATurn() {
        TurnTree t = late();
        t.hold(1, 2);
        t.put(3, 1, 1);
        t.turn();
        Check.due("held yet", t.sum(1, 0), 0);
        t.turn();
        Check.due("the time", t.sum(0, 1), 40 * UNIT);
        Check.due("by the second turn", t.sum(1, 0), 40 * UNIT);
        TurnTree many = late();
        many.hold(1, 2);
        many.put(3, 1, 1);
        Check.due("turns", many.turns(3), 3);
        Check.due("in the midst of turns()", many.latest(0), 3);
        Check.due("its tag", many.sum(1, 0), 41 * UNIT);
    }

    /** A class that is open and stays so keeps tag and rest, whatever comes to it. */
    private static void staysAsItWasWhileOpen() {
        TurnTree t = Sample.leaves(7, 7);
        t.putAll(1, 1, 1, 2);
        t.putAll(2, 1, 1, 2);
        t.turns(3);
        Check.due("the time is the tag of 2", t.sum(0, 1), UNIT / 7);
        t.put(2, 1, 1);
        t.hold(2, 0);
        Check.due("tag of 2", t.sum(2, 0), UNIT / 7);
        Check.due("rest of 2", t.about(2, 2), UNIT % 7);
        Check.due("a rest above 0", UNIT % 7 > 0, true);
    }

    /** "(From the root on: first the classes nearest to it.)": each takes its own parent's time. */
    private static void severalBecomeOpenAtOnce() {
        TurnTree t = Sample.leaves(1, 1);
        t.add(1, 1, 9);
        t.add(3, 1, 9);
        t.add(1, 1, 9);
        t.add(3, 1, 9);
        t.putAll(6, 1, 8, 3);
        t.turns(3);
        t.putAll(5, 1, 10, 3);
        t.turns(3);
        t.putAll(2, 1, 100, 2);
        t.turns(2);
        int[] times = {144, 36, 0, 16};
        for (int c = 0; c < times.length; c++) {
            Check.due("time of " + c, t.sum(c, 1), times[c] * UNIT);
        }
        dueTags("before", t, 0, 54, 244, 24, 0, 46, 24);
        t.put(4, 1, 1);
        dueTags("behind", t, 0, 144, 244, 36, 16, 46, 24);
    }

    private static void dueTags(String when, TurnTree t, int... bytes) {
        for (int c = 0; c < bytes.length; c++) {
            Check.due("tag of " + c + " " + when, t.sum(c, 0), bytes[c] * UNIT);
        }
    }

    /** "of the open children that with the least tag (of several the least number) is next". */
    private static void theLeastTagThenTheLeastNumber() {
        TurnTree t = Sample.leaves(1, 1, 1);
        t.putAll(3, 30, 5, 3);
        t.putAll(2, 20, 5, 3);
        t.putAll(1, 10, 6, 3);
        int[] leaves = {1, 2, 3, 2, 3, 1, 2, 3, 1};
        long[] times = {0, 0, 0, 5, 5, 6, 10, 10, 12};
        for (int i = 0; i < leaves.length; i++) {
            Check.due("turn " + i, outcome(t.turn()), 1);
            Check.due("leaf " + i, t.latest(0), leaves[i]);
            Check.due("the class's time becomes that tag, " + i, t.sum(0, 1), times[i] * UNIT);
        }
        TurnTree closed = Sample.leaves(1, 1, 1);
        closed.put(3, 1, 1);
        closed.put(2, 1, 1);
        closed.hold(2, 9);
        closed.turn();
        Check.due("of the open ones alone", closed.latest(0), 3);
    }

    /** A tag that is less by one is next, whatever the numbers. */
    private static void aTagThatIsLessByOne() {
        TurnTree t = Sample.leaves(992, 1000);
        t.putAll(1, 1, 1, 2);
        t.putAll(2, 1, 1, 2);
        t.turns(2);
        Check.due("tags", t.sum(1, 0) - t.sum(2, 0), 1);
        t.turn();
        Check.due("leaf", t.latest(0), 2);
    }

    /** "divided by its weight, rounded down, the remainder being its rest". */
    private static void roundedDown() {
        TurnTree t = Sample.leaves(1000, 1);
        t.add(2, 999, 9);
        t.put(1, 1, 2000);
        t.put(3, 1, 2000);
        t.turns(2);
        Check.due("no remainder", View.ofClass(t, 1),
                "about 0 1000 0 0 0 0 0 2000 sums 131072 0 2000 0 children packets");
        Check.due("tag of weight 1", t.sum(2, 0), 131072000);
        Check.due("tag of weight 999", t.sum(3, 0), 131203);
        Check.due("rest of weight 999", t.about(3, 2), 203);
    }

    /** "each class on the way (but the root) gets as its tag ..", and each its share. */
    private static void theRootGetsNoTag() {
        TurnTree t = new TurnTree();
        t.add(0, 2, 9);
        t.add(1, 4, 9);
        t.add(1, 4, 9);
        t.put(2, 1, 8);
        t.turn();
        long[] tags = {0, 4 * UNIT, 2 * UNIT, 0};
        int[] shares = {8, 8, 8, 0};
        for (int c = 0; c <= 3; c++) {
            Check.due("tag of " + c, t.sum(c, 0), tags[c]);
            Check.due("share of " + c, t.sum(c, 2), shares[c]);
            Check.due("rest of " + c, t.about(c, 2), 0);
        }
    }

    /** "A class can be HELD until so many turns more have been: behind that turn it is held no more." */
    private static void behindThatTurnItIsHeldNoMore() {
        for (int turns = 1; turns <= 3; turns++) {
            TurnTree t = Sample.leaves(1, 1);
            t.put(1, 1, 1);
            t.putAll(2, 1, 1, 9);
            t.hold(1, turns);
            for (int i = turns; i > 0; i--) {
                Check.due("held " + i + " of " + turns, t.about(1, 6), i);
                Check.due("not open", t.about(1, 5), 0);
                t.turn();
                Check.due("the turn of the other", t.latest(0), 2);
            }
            Check.due("held no more", t.about(1, 6), 0);
            Check.due("open", t.about(1, 5), 1);
            t.turn();
            Check.due("its turn", t.latest(0), 1);
        }
    }

    /** "A call that throws changes nothing.": nor do many of them, one behind another. */
    private static void callsThatThrowChangeNothing() {
        Supplier<TurnTree> touched = () -> {
            TurnTree t = Sample.busy();
            List<Consumer<TurnTree>> calls = List.of(
                    x -> x.add(6, 1, 1), x -> x.add(0, 1001, 1), x -> x.add(0, 1, 2001), x -> x.add(2, 1, 1),
                    x -> x.remove(6), x -> x.remove(1), x -> x.remove(2), x -> x.weight(0, 1),
                    x -> x.weight(2, 0), x -> x.move(0, 1), x -> x.move(2, 6), x -> x.move(1, 3),
                    x -> x.move(3, 2), x -> x.put(6, 1, 1), x -> x.put(1, 1, 1), x -> x.put(2, 1, 2001),
                    x -> x.putAll(6, 1, 1, 1), x -> x.putAll(1, 1, 1, 1), x -> x.putAll(2, 1, 0, 1),
                    x -> x.putAll(2, 1, 1, 501), x -> x.turns(1001), x -> x.turns(-1), x -> x.latest(3),
                    x -> x.clear(6), x -> x.hold(0, 1), x -> x.hold(5, 1001), x -> x.hold(5, -1),
                    x -> x.child(0, 3), x -> x.packet(2, 2), x -> x.sum(0, 4), x -> x.about(0, 8),
                    x -> x.count(5));
            for (int i = 0; i < calls.size(); i++) {
                Check.due("call " + i + " throws", Check.thrownBy(t, calls.get(i)).equals("nothing"), false);
            }
            return t;
        };
        for (int c = 0; c < 64; c++) {
            Check.due("class " + c, View.ofClass(touched.get(), c), View.ofClass(Sample.busy(), c));
        }
        Check.due("all", View.ofAll(touched.get()), View.ofAll(Sample.busy()));
        Check.due("what follows", View.ofFuture(touched.get()), View.ofFuture(Sample.busy()));
    }

    /** "An object is used for at most 512 calls after it has been made": the last of them is answered too. */
    private static void the512thCall() {
        TurnTree t = Sample.leaves(1);
        for (int i = 0; i < 255; i++) {
            Check.due("put " + i, t.put(1, i, 1), true);
            Check.due("turn " + i, t.turn(), true);
        }
        Check.due("the 512th call", t.count(3), 255);
    }
}
