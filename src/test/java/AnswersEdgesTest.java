/** The edges that promises 13, 15, 16 and 17 name, sentence by sentence, each on both of its sides. */
public final class AnswersEdgesTest {
    private static final int LEAST = Integer.MIN_VALUE;
    private static final int MOST = Integer.MAX_VALUE;

    public static void main(String[] args) {
        childByRisingTags();
        childThenByNumbers();
        childWhenThereAreNotSoMany();
        childOf63();
        sumOfEachKind();
        sumOfManyBytes();
        sumOfGreatTags();
        sumIsNoneOfThese();
        aboutTheRoot();
        aboutAClassUnderTheRoot();
        aboutPacketsInItOrUnderIt();
        aboutHowManyTurnsItIsHeldYet();
        aboutTheLimit();
        aboutIsNoneOfThese();
        countClasses();
        countPackets();
        countOpenLeaves();
        countTurns();
        countDropped();
        countIsNoneOfThese();
        Check.end();
    }

    private static void dueChildren(TurnTree t, int c, int... order) {
        for (int k = 0; k < order.length; k++) {
            Check.due("child(" + c + ", " + k + ")", t.child(c, k), order[k]);
        }
        Check.due("children of " + c, t.about(c, 3), order.length);
    }

    /** "The number of the k-th class under a class, by rising tags": also tags that differ by one. */
    private static void childByRisingTags() {
        TurnTree t = Sample.leaves(992, 1000, 1);
        t.put(1, 1, 1);
        t.put(2, 1, 1);
        t.turns(2);
        Check.due("tag of 1", t.sum(1, 0), 66);
        Check.due("tag of 2", t.sum(2, 0), 65);
        dueChildren(t, 0, 3, 2, 1);
        t.put(3, 1, 1);
        t.turn();
        dueChildren(t, 0, 2, 1, 3);
    }

    /** "(then by numbers)": the order in which they came does not matter, nor does the rest. */
    private static void childThenByNumbers() {
        TurnTree t = Sample.leaves(1000, 1, 1, 1, 999);
        dueChildren(t, 0, 1, 2, 3, 4, 5);
        t.remove(2);
        t.move(4, 3);
        t.move(4, 0);
        t.add(0, 1, 1);
        dueChildren(t, 0, 1, 2, 3, 4, 5);
        t.put(1, 1, 1);
        t.put(5, 1, 1);
        t.turns(2);
        Check.due("equal tags", t.sum(1, 0), t.sum(5, 0));
        Check.due("the rest of 1", t.about(1, 2), 536);
        Check.due("the rest of 5", t.about(5, 2), 601);
        dueChildren(t, 0, 2, 3, 4, 1, 5);
    }

    /** "IndexOutOfBoundsException: also when there are not so many." */
    private static void childWhenThereAreNotSoMany() {
        dueChildren(Sample.busy(), 0, 5, 4, 1);
        dueChildren(Sample.busy(), 1, 3, 2);
        Check.refusedEach("child(0, k)", Check.INDEX, Sample::busy, (t, k) -> t.child(0, k),
                LEAST, -1, 3, MOST);
        Check.refusedEach("child(1, k)", Check.INDEX, Sample::busy, (t, k) -> t.child(1, k), -1, 2);
        Check.refusedEach("child(4, k) of a leaf", Check.INDEX, Sample::busy, (t, k) -> t.child(4, k),
                -1, 0, 1);
        Check.refusedEach("child(0, k) of none", Check.INDEX, TurnTree::new, (t, k) -> t.child(0, k), -1, 0);
    }

    /** As many children as there can be. */
    private static void childOf63() {
        TurnTree t = new TurnTree();
        for (int c = 1; c < 64; c++) {
            t.add(0, 1, 1);
        }
        Check.due("the first", t.child(0, 0), 1);
        Check.due("the last", t.child(0, 62), 63);
        Check.due("one more", Check.thrownBy(t, x -> x.child(0, 63)), "IndexOutOfBoundsException");
        t.put(1, 1, 1);
        t.turn();
        Check.due("the first behind a turn", t.child(0, 0), 2);
        Check.due("the last behind a turn", t.child(0, 62), 1);
    }

    private static void dueSums(TurnTree t, int c, long tag, long time, long share, long bytes) {
        Check.due("tag of " + c, t.sum(c, 0), tag);
        Check.due("time of " + c, t.sum(c, 1), time);
        Check.due("share of " + c, t.sum(c, 2), share);
        Check.due("bytes of " + c, t.sum(c, 3), bytes);
    }

    /** "0 its tag, 1 its time, 2 its share, 3 the bytes that wait in it or under it". */
    private static void sumOfEachKind() {
        TurnTree t = Sample.busy();
        dueSums(t, 0, 0, 0, 564, 1078);
        dueSums(t, 1, 10922666, 0, 500, 1000);
        dueSums(t, 2, 4681142, 0, 500, 1000);
        dueSums(t, 3, 0, 0, 0, 0);
        dueSums(t, 4, 599186, 0, 64, 64);
        dueSums(t, 5, 0, 0, 0, 14);
        t.turns(2);
        dueSums(t, 0, 0, 10922666, 1128, 514);
        dueSums(t, 1, 21845333, 4681142, 1000, 500);
        dueSums(t, 2, 9362285, 0, 1000, 500);
        dueSums(t, 4, 1198372, 0, 128, 0);
    }

    /** The most bytes that can wait: 2000 packets of 2000. */
    private static void sumOfManyBytes() {
        TurnTree t = new TurnTree();
        t.add(0, 1, 1);
        t.add(1, 1, 2000);
        t.add(1, 1, 2000);
        for (int i = 0; i < 4; i++) {
            t.putAll(2 + i / 2, 1, 2000, 500);
        }
        for (int c = 0; c <= 1; c++) {
            Check.due("bytes under " + c, t.sum(c, 3), 4000000);
        }
        Check.due("bytes in a leaf", t.sum(2, 3), 2000000);
        t.turn();
        Check.due("bytes behind a turn", t.sum(0, 3), 3998000);
        t.clear(2);
        Check.due("bytes behind a clear", t.sum(0, 3), 2000000);
        t.clear(0);
        Check.due("no bytes", t.sum(0, 3), 0);
    }

    /** Tags and times go far beyond an int, and so do not wrap. */
    private static void sumOfGreatTags() {
        TurnTree t = Sample.leaves(1);
        long sent = 0;
        for (int i = 0; i < 100; i++) {
            t.putAll(1, 1, 2000, 500);
            t.turns(500);
            sent += 500 * 2000;
        }
        Check.due("tag", t.sum(1, 0), sent * 65536);
        Check.due("time", t.sum(0, 1), (sent - 2000) * 65536);
        Check.due("share", t.sum(0, 2), sent);
        Check.due("turns", t.count(3), 50000);
    }

    /** "IllegalArgumentException: what is none of these", the class being looked at first. */
    private static void sumIsNoneOfThese() {
        Check.allowedEach("sum(0, what)", Sample::busy, (t, what) -> t.sum(0, what), 0, 1, 2, 3);
        Check.refusedEach("sum(0, what)", Check.ARGUMENT, Sample::busy, (t, what) -> t.sum(0, what),
                LEAST, -1, 4, MOST);
        Check.refusedEach("sum(5, what)", Check.ARGUMENT, Sample::busy, (t, what) -> t.sum(5, what), -1, 4);
        Check.refusedEach("sum(c, 4)", Check.INDEX, Sample::busy, (t, c) -> t.sum(c, 4), -1, 6, 64);
    }

    private static void dueAbout(TurnTree t, int c, int... answers) {
        for (int what = 0; what < answers.length; what++) {
            Check.due("about(" + c + ", " + what + ")", t.about(c, what), answers[what]);
        }
    }

    /** "NONE for the root", "0 for the root" (weight and limit). */
    private static void aboutTheRoot() {
        dueAbout(new TurnTree(), 0, TurnTree.NONE, 0, 0, 0, 0, 0, 0, 0);
        dueAbout(Sample.busy(), 0, TurnTree.NONE, 0, 0, 3, 5, 1, 0, 0);
        TurnTree sent = Sample.busy();
        Check.due("turns", sent.turns(1000), 3);
        dueAbout(sent, 0, TurnTree.NONE, 0, 0, 3, 2, 0, 0, 0);
    }

    /** "0 its parent, 1 its weight, 2 its rest, 3 children, .., 5 whether it is open (1)". */
    private static void aboutAClassUnderTheRoot() {
        TurnTree t = Sample.busy();
        dueAbout(t, 1, 0, 3, 2, 2, 2, 1, 0, 10);
        dueAbout(t, 2, 1, 7, 6, 0, 2, 1, 0, 10);
        dueAbout(t, 3, 1, 5, 0, 0, 0, 0, 0, 3);
        dueAbout(t, 4, 0, 7, 2, 0, 1, 1, 0, 5);
        dueAbout(t, 5, 0, 9, 0, 0, 2, 0, 28, 2);
        Check.due("the last class", Sample.full().about(63, 0), 31);
    }

    /** "4 packets in it or under it". */
    private static void aboutPacketsInItOrUnderIt() {
        TurnTree t = Sample.crowded();
        Check.due("all", t.about(0, 4), 2000);
        Check.due("a leaf", t.about(1, 4), 1000);
        Check.due("an empty class", t.about(3, 4), 0);
        t.move(1, 3);
        Check.due("under it", t.about(3, 4), 1000);
        Check.due("all still", t.about(0, 4), 2000);
        Check.due("far under it", Sample.full().about(1, 4), 1);
        Check.due("beside it", Sample.full().about(2, 4), 0);
    }

    /** "6 how many turns it is held yet": down to 0, and never below. */
    private static void aboutHowManyTurnsItIsHeldYet() {
        TurnTree t = Sample.leaves(1, 1);
        t.putAll(2, 1, 1, 9);
        t.hold(1, 2);
        int[] held = {2, 1, 0, 0, 0};
        for (int i = 0; i < held.length; i++) {
            Check.due("behind " + i + " turns", t.about(1, 6), held[i]);
            t.turn();
        }
        Check.due("one that never was held", t.about(2, 6), 0);
        t.hold(1, 1000);
        Check.due("the longest", t.about(1, 6), 1000);
    }

    /** "7 its limit (0 for the root)". */
    private static void aboutTheLimit() {
        TurnTree t = new TurnTree();
        t.add(0, 1, 1);
        t.add(0, 1, 2000);
        t.add(1, 1, 5);
        Check.due("the root", t.about(0, 7), 0);
        Check.due("a leaf that got a child", t.about(1, 7), 1);
        Check.due("a leaf", t.about(2, 7), 2000);
        t.putAll(2, 1, 1, 3);
        Check.due("with packets", t.about(2, 7), 2000);
    }

    /** "IllegalArgumentException: what is none of these", the class being looked at first. */
    private static void aboutIsNoneOfThese() {
        Check.allowedEach("about(0, what)", Sample::busy, (t, what) -> t.about(0, what),
                0, 1, 2, 3, 4, 5, 6, 7);
        Check.refusedEach("about(0, what)", Check.ARGUMENT, Sample::busy, (t, what) -> t.about(0, what),
                LEAST, -1, 8, MOST);
        Check.refusedEach("about(5, what)", Check.ARGUMENT, Sample::busy, (t, what) -> t.about(5, what), -1, 8);
        Check.refusedEach("about(c, 8)", Check.INDEX, Sample::busy, (t, c) -> t.about(c, 8), -1, 6, 64);
    }

    /** "0 classes": from 1 to 64. */
    private static void countClasses() {
        Check.due("the root alone", new TurnTree().count(0), 1);
        Check.due("all", Sample.full().count(0), 64);
        TurnTree t = Sample.leaves(1);
        Check.due("one more", t.count(0), 2);
        t.remove(1);
        Check.due("the root alone again", t.count(0), 1);
    }

    /** "1 packets": from 0 to 2000. */
    private static void countPackets() {
        Check.due("none", new TurnTree().count(1), 0);
        Check.due("held ones too", Sample.busy().count(1), 5);
        TurnTree t = Sample.crowded();
        Check.due("all", t.count(1), 2000);
        t.turns(1000);
        Check.due("half of them", t.count(1), 1000);
        t.turns(1000);
        Check.due("none again", t.count(1), 0);
    }

    /** "2 open leaves": a leaf with packets that is not held itself. */
    private static void countOpenLeaves() {
        TurnTree t = Sample.busy();
        Check.due("2 and 4", t.count(2), 2);
        t.put(3, 1, 1);
        Check.due("3 too", t.count(2), 3);
        t.hold(5, 0);
        Check.due("5 too", t.count(2), 4);
        t.hold(1, 3);
        Check.due("also under a held class", t.count(2), 4);
        t.clear(0);
        Check.due("none", t.count(2), 0);
        TurnTree all = new TurnTree();
        for (int c = 1; c < 64; c++) {
            all.add(0, 1, 1);
            all.put(c, 1, 1);
        }
        Check.due("as many as can be", all.count(2), 63);
    }

    /** "3 turns so far". */
    private static void countTurns() {
        TurnTree t = Sample.leaves(1);
        Check.due("none", t.count(3), 0);
        t.turn();
        t.turns(9);
        Check.due("none was one", t.count(3), 0);
        t.putAll(1, 1, 1, 3);
        t.turn();
        t.turns(9);
        t.turn();
        Check.due("one, and two of nine", t.count(3), 3);
    }

    /** "4 packets dropped by put(), putAll() and clear() so far". */
    private static void countDropped() {
        TurnTree t = new TurnTree();
        t.add(0, 1, 2);
        Check.due("none", t.count(4), 0);
        t.putAll(1, 1, 1, 2);
        Check.due("none yet", t.count(4), 0);
        t.put(1, 1, 1);
        Check.due("by put()", t.count(4), 1);
        t.putAll(1, 1, 1, 9);
        Check.due("by putAll()", t.count(4), 2);
        t.clear(0);
        Check.due("by clear()", t.count(4), 4);
        t.clear(0);
        t.put(1, 1, 1);
        t.turn();
        Check.due("not by a turn", t.count(4), 4);
        t.remove(1);
        Check.due("not less without the leaf", t.count(4), 4);
    }

    /** "IllegalArgumentException: what is none of these." */
    private static void countIsNoneOfThese() {
        Check.allowedEach("count(what)", Sample::busy, (t, what) -> t.count(what), 0, 1, 2, 3, 4);
        Check.refusedEach("count(what)", Check.ARGUMENT, Sample::busy, (t, what) -> t.count(what),
                LEAST, -1, 5, MOST);
        Check.refusedEach("count(what)", Check.ARGUMENT, TurnTree::new, (t, what) -> t.count(what), -1, 5);
    }
}
