/** Promises 1 to 5: the classes, how they come, go and change. */
public final class ClassesTest {
    private static final int UNIT = 65536;

    public static void main(String[] args) {
        newObject();
        addAnswersTheLeastFreeNumber();
        addKeepsWhatTheParentHas();
        removeTakesALeafAway();
        removedNumbersBeginAnew();
        weightChangesTheTag();
        moveTakesAllUnderIt();
        moveSetsTheTag();
        moveOpensAndCloses();
        moveToTheSameParent();
        moveBelowAnOpenClass();
        Check.end();
    }

    /** 1 holds the leaves 2 and 3, the root the leaf 4; 2 has two packets. */
    private static TurnTree small() {
        TurnTree t = new TurnTree();
        t.add(0, 3, 10);
        t.add(1, 2, 10);
        t.add(1, 5, 3);
        t.add(0, 7, 5);
        t.putAll(2, 100, 500, 3);
        t.put(4, 7, 64);
        t.turn();
        return t;
    }

    private static void newObject() {
        TurnTree t = new TurnTree();
        Check.due("new", View.ofAll(t), "counts 1 0 0 0 0 latest -1 0 -1");
        Check.due("new", View.ofClass(t, 0), "about -1 0 0 0 0 0 0 0 sums 0 0 0 0 children packets");
        Check.due("new, class 1", View.ofClass(t, 1), "no class");
        Check.due("new turn()", t.turn(), false);
    }

    private static void addAnswersTheLeastFreeNumber() {
        TurnTree t = new TurnTree();
        Check.due("add 1st", t.add(0, 1, 1), 1);
        Check.due("add 2nd", t.add(1, 1000, 2000), 2);
        Check.due("add 3rd", t.add(0, 4, 9), 3);
        Check.due("count(0)", t.count(0), 4);
        Check.due("class 2", View.ofClass(t, 2), "about 1 1000 0 0 0 0 0 2000 sums 0 0 0 0 children packets");
        t.remove(2);
        t.remove(1);
        Check.due("add at the first gap", t.add(3, 1, 1), 1);
        Check.due("add at the second gap", t.add(3, 1, 1), 2);
        Check.due("add behind the gaps", t.add(3, 1, 1), 4);
    }

    private static void addKeepsWhatTheParentHas() {
        TurnTree t = new TurnTree();
        t.add(0, 1, 6);
        t.put(1, 1, 10);
        t.turn();
        t.hold(1, 4);
        Check.due("add under an empty leaf", t.add(1, 2, 2), 2);
        Check.due("class 1", View.ofClass(t, 1),
                "about 0 1 0 1 0 0 4 6 sums " + 10 * UNIT + " 0 10 0 children 2 packets");
        Check.due("put in what was a leaf", Check.thrownBy(t, x -> x.put(1, 1, 1)), "IllegalStateException");
        t.remove(2);
        Check.due("put in what is a leaf again", t.putAll(1, 1, 1, 10), 6);
    }

    private static void removeTakesALeafAway() {
        TurnTree t = small();
        t.remove(3);
        Check.due("class 3", View.ofClass(t, 3), "no class");
        Check.due("count(0)", t.count(0), 4);
        Check.due("about(1, 3)", t.about(1, 3), 1);
        t.clear(2);
        t.remove(2);
        Check.due("about(1, 3)", t.about(1, 3), 0);
        Check.due("share stays above", t.sum(1, 2), 500);
        t.remove(1);
        Check.due("child(0, 0)", t.child(0, 0), 4);
        Check.due("about(0, 3)", t.about(0, 3), 1);
    }

    private static void removedNumbersBeginAnew() {
        TurnTree t = new TurnTree();
        t.add(0, 7, 5);
        t.put(1, 1, 10);
        t.turn();
        t.hold(1, 9);
        t.remove(1);
        Check.due("latest(0) of a removed leaf", t.latest(0), 1);
        t.add(0, 3, 4);
        Check.due("class 1", View.ofClass(t, 1), "about 0 3 0 0 0 0 0 4 sums 0 0 0 0 children packets");
    }

    private static void weightChangesTheTag() {
        TurnTree t = new TurnTree();
        t.add(0, 3, 10);
        t.putAll(1, 1, 1, 3);
        t.turn();
        Check.due("tag by weight 3", t.sum(1, 0), 21845);
        Check.due("rest by weight 3", t.about(1, 2), 1);
        t.weight(1, 1000);
        Check.due("rest of a new weight", t.about(1, 2), 0);
        Check.due("tag of a new weight", t.sum(1, 0), 21845);
        Check.due("the new weight", t.about(1, 1), 1000);
        t.turn();
        Check.due("tag by weight 1000", t.sum(1, 0), 21845 + 65);
        Check.due("rest by weight 1000", t.about(1, 2), 536);
        t.weight(1, 1000);
        Check.due("rest of the same weight", t.about(1, 2), 0);
        t.weight(1, 1);
        t.turn();
        Check.due("tag by weight 1", t.sum(1, 0), 21845 + 65 + UNIT);
    }

    private static void moveTakesAllUnderIt() {
        TurnTree t = small();
        t.clear(4);
        t.move(1, 4);
        Check.due("parent of 1", t.about(1, 0), 4);
        Check.due("parent of 2", t.about(2, 0), 1);
        Check.due("packets under 4", t.about(4, 4), 2);
        Check.due("bytes under 4", t.sum(4, 3), 1000);
        Check.due("share of 4", t.sum(4, 2), 0);
        Check.due("share of 1", t.sum(1, 2), 500);
        Check.due("children of the root", t.about(0, 3), 1);
        Check.due("limit of 4 is kept", t.about(4, 7), 5);
    }

    private static void moveSetsTheTag() {
        TurnTree t = new TurnTree();
        t.add(0, 3, 10);
        t.add(0, 3, 10);
        t.add(1, 1, 10);
        t.add(2, 1, 10);
        t.putAll(3, 1, 1, 5);
        t.turns(3);
        Check.due("time of 1", t.sum(1, 1), 2 * UNIT);
        t.weight(4, 7);
        t.put(4, 1, 1);
        t.turn();
        Check.due("tag of 4", t.sum(4, 0), UNIT / 7);
        Check.due("rest of 4", t.about(4, 2), UNIT % 7);
        t.move(4, 1);
        Check.due("a tag that becomes greater", t.sum(4, 0), 2 * UNIT);
        Check.due("its rest", t.about(4, 2), 0);
        t.put(4, 1, 1);
        t.move(4, 2);
        Check.due("a tag that becomes less", t.sum(4, 0), 0);
    }

    private static void moveOpensAndCloses() {
        TurnTree t = new TurnTree();
        t.add(0, 1, 10);
        t.add(0, 1, 10);
        t.add(1, 1, 10);
        t.add(0, 1, 10);
        t.putAll(3, 1, 10, 5);
        t.turns(3);
        Check.due("time of the root", t.sum(0, 1), 20 * UNIT);
        t.move(3, 2);
        Check.due("class 1 has closed", t.about(1, 5), 0);
        Check.due("class 2 has opened", t.about(2, 5), 1);
        Check.due("tag of 2", t.sum(2, 0), 20 * UNIT);
        Check.due("tag of 1", t.sum(1, 0), 30 * UNIT);
        Check.due("tag of 3", t.sum(3, 0), 0);
        Check.due("class 1 is a leaf", t.put(1, 1, 1), true);
    }

    private static void moveToTheSameParent() {
        TurnTree t = new TurnTree();
        t.add(0, 3, 10);
        t.putAll(1, 1, 10, 5);
        t.turns(2);
        t.move(1, 0);
        Check.due("tag", t.sum(1, 0), 10 * UNIT / 3);
        Check.due("rest", t.about(1, 2), 0);
        Check.due("children", t.about(0, 3), 1);
        Check.due("open", t.about(0, 5), 1);
        Check.due("turns", t.turns(9), 3);
        Check.due("closed", t.about(0, 5), 0);
    }

    /** Class 1 is open before and after a move from the one to the other of its children. */
    private static void moveBelowAnOpenClass() {
        TurnTree t = new TurnTree();
        t.add(0, 7, 10);
        t.add(1, 1, 10);
        t.add(1, 1, 10);
        t.add(2, 1, 10);
        t.putAll(4, 1, 10, 5);
        t.turns(2);
        t.move(4, 3);
        Check.due("tag of 1", t.sum(1, 0), 20 * UNIT / 7);
        Check.due("rest of 1", t.about(1, 2), 20 * UNIT % 7);
        Check.due("1 is open", t.about(1, 5), 1);
        Check.due("2 has closed", t.about(2, 5), 0);
        Check.due("3 has opened", t.about(3, 5), 1);
        Check.due("tag of 3", t.sum(3, 0), 10 * UNIT);
        Check.due("turns", t.turns(9), 3);
        Check.due("time of 3", t.sum(3, 1), 20 * UNIT);
        Check.due("time of 2", t.sum(2, 1), 10 * UNIT);
    }
}
