/** Promises 8, 9, 10 and 12: whose turn it is, and classes that are held. */
public final class TurnsTest {
    private static final int UNIT = 65536;

    public static void main(String[] args) {
        turnTakesTheLeastTag();
        turnTakesTheLeastNumberOfEqualTags();
        turnChargesTheWay();
        turnKeepsTheRest();
        turnSharesByWeights();
        turnClosesAnEmptyLeaf();
        turnGoesDownADeepTree();
        openingSetsTheTagToTheTime();
        openingKeepsAGreaterTag();
        openingKeepsAnEqualTagAndItsRest();
        turnsStopsWhenNoneIsOpen();
        latestTellsTheLatestTurn();
        holdCountsTurns();
        holdOfAllStopsTheTurns();
        holdEndsAndSetsTheTag();
        holdEndsInTheMidstOfTurns();
        holdOnTwoLevels();
        holdIsSetAnew();
        holdGoesAlong();
        Check.end();
    }

    private static TurnTree twoLeaves(int weight1, int weight2) {
        TurnTree t = new TurnTree();
        t.add(0, weight1, 2000);
        t.add(0, weight2, 2000);
        return t;
    }

    /** Both leaves have packets; one turn has been. */
    private static TurnTree running() {
        TurnTree t = twoLeaves(3, 7);
        t.putAll(1, 10, 100, 5);
        t.putAll(2, 20, 200, 5);
        t.turn();
        return t;
    }

    private static void turnTakesTheLeastTag() {
        TurnTree t = twoLeaves(1, 1);
        t.putAll(1, 10, 100, 3);
        t.putAll(2, 20, 30, 5);
        int[] leaves = {1, 2, 2, 2, 2, 1, 2, 1};
        for (int i = 0; i < leaves.length; i++) {
            Check.due("turn " + i, t.turn(), true);
            Check.due("leaf of turn " + i, t.latest(0), leaves[i]);
        }
        Check.due("a turn too many", t.turn(), false);
        Check.due("count(3)", t.count(3), leaves.length);
    }

    private static void turnTakesTheLeastNumberOfEqualTags() {
        TurnTree t = new TurnTree();
        for (int i = 1; i <= 5; i++) {
            t.add(0, 1, 10);
        }
        t.remove(2);
        t.add(0, 1, 10);
        for (int c = 5; c >= 1; c--) {
            t.putAll(c, c, 10, 2);
        }
        for (int i = 0; i < 10; i++) {
            t.turn();
            Check.due("leaf of turn " + i, t.latest(0), 1 + i % 5);
        }
    }

    private static void turnChargesTheWay() {
        TurnTree t = new TurnTree();
        t.add(0, 1000, 5);
        t.add(1, 7, 5);
        t.add(2, 1, 5);
        t.put(3, 1, 2000);
        t.put(3, 2, 3);
        t.turn();
        Check.due("tag of 3", t.sum(3, 0), 2000L * UNIT);
        Check.due("tag of 2", t.sum(2, 0), 2000L * UNIT / 7);
        Check.due("rest of 2", t.about(2, 2), 2000L * UNIT % 7);
        Check.due("tag of 1", t.sum(1, 0), 131072);
        Check.due("tag of the root", t.sum(0, 0), 0);
        Check.due("times", t.sum(0, 1) + t.sum(1, 1) + t.sum(2, 1) + t.sum(3, 1), 0);
        t.turn();
        Check.due("time of the root", t.sum(0, 1), 131072);
        Check.due("time of 1", t.sum(1, 1), 2000L * UNIT / 7);
        Check.due("time of 2", t.sum(2, 1), 2000L * UNIT);
        Check.due("time of a leaf", t.sum(3, 1), 0);
        Check.due("shares", t.sum(0, 2) + t.sum(1, 2) + t.sum(2, 2) + t.sum(3, 2), 4 * 2003);
        Check.due("rest of the root", t.about(0, 2), 0);
    }

    private static void turnKeepsTheRest() {
        TurnTree t = new TurnTree();
        t.add(0, 999, 100);
        t.putAll(1, 1, 1, 100);
        for (int i = 1; i <= 100; i++) {
            t.turn();
            Check.due("tag " + i, t.sum(1, 0), i * UNIT / 999);
            Check.due("rest " + i, t.about(1, 2), i * UNIT % 999);
        }
    }

    private static void turnSharesByWeights() {
        TurnTree t = twoLeaves(3, 1);
        t.putAll(1, 0, 100, 400);
        t.putAll(2, 0, 100, 400);
        t.turns(400);
        Check.due("share of 1", t.sum(1, 2), 30000);
        Check.due("share of 2", t.sum(2, 2), 10000);
    }

    private static void turnClosesAnEmptyLeaf() {
        TurnTree t = new TurnTree();
        t.add(0, 1, 5);
        t.add(1, 1, 5);
        t.add(1, 1, 5);
        t.put(2, 1, 1);
        t.put(3, 1, 1);
        t.turn();
        Check.due("2 is closed", t.about(2, 5), 0);
        Check.due("1 is open", t.about(1, 5), 1);
        t.turn();
        Check.due("1 is closed", t.about(1, 5), 0);
        Check.due("the root is closed", t.about(0, 5), 0);
        Check.due("no turn", t.turn(), false);
        Check.due("count(3)", t.count(3), 2);
    }

    private static void turnGoesDownADeepTree() {
        TurnTree t = new TurnTree();
        for (int i = 0; i < 63; i++) {
            t.add(i, i + 1, 2000);
        }
        t.putAll(63, 5, 2000, 500);
        Check.due("turns", t.turns(499), 499);
        Check.due("open", t.about(1, 5), 1);
        Check.due("the last", t.turns(2), 1);
        Check.due("leaf", t.latest(0), 63);
        Check.due("id", t.latest(1), 504);
        Check.due("tag of 1", t.sum(1, 0), 500L * 2000 * UNIT);
        Check.due("tag of 63", t.sum(63, 0), 500L * 2000 * UNIT / 63);
        Check.due("closed", t.about(1, 5), 0);
    }

    private static void openingSetsTheTagToTheTime() {
        TurnTree t = twoLeaves(1, 7);
        t.put(2, 1, 1);
        t.turn();
        t.putAll(1, 1, 10, 10);
        Check.due("rest before", t.about(2, 2), UNIT % 7);
        t.turns(2);
        Check.due("time", t.sum(0, 1), 10 * UNIT);
        Check.due("tag before", t.sum(2, 0), UNIT / 7);
        t.putAll(2, 1, 1, 2);
        Check.due("tag", t.sum(2, 0), 10 * UNIT);
        Check.due("rest", t.about(2, 2), 0);
        t.turn();
        Check.due("its turn", t.latest(0), 2);
    }

    private static void openingKeepsAGreaterTag() {
        TurnTree t = twoLeaves(1, 7);
        t.put(2, 1, 1000);
        t.turn();
        t.putAll(1, 1, 10, 10);
        t.turns(2);
        t.put(2, 1, 1);
        Check.due("tag", t.sum(2, 0), 1000 * UNIT / 7);
        Check.due("rest", t.about(2, 2), 1000 * UNIT % 7);
    }

    private static void openingKeepsAnEqualTagAndItsRest() {
        TurnTree t = twoLeaves(7, 7);
        t.put(1, 1, 1);
        t.putAll(2, 1, 1, 3);
        t.turns(3);
        Check.due("time", t.sum(0, 1), UNIT / 7);
        t.put(1, 1, 1);
        Check.due("tag", t.sum(1, 0), UNIT / 7);
        Check.due("rest", t.about(1, 2), UNIT % 7);
    }

    private static void turnsStopsWhenNoneIsOpen() {
        TurnTree t = running();
        Check.due("turns(0)", t.turns(0), 0);
        Check.due("count(3)", t.count(3), 1);
        Check.due("turns(4)", t.turns(4), 4);
        Check.due("turns(1000)", t.turns(1000), 5);
        Check.due("turns(1)", t.turns(1), 0);
        Check.due("count(3)", t.count(3), 10);
        Check.due("packets", t.count(1), 0);
        Check.due("none is dropped", t.count(4), 0);
        TurnTree full = new TurnTree();
        full.add(0, 1, 2000);
        for (int i = 0; i < 3; i++) {
            full.putAll(1, i, 1, 500);
        }
        Check.due("turns(1000) of 1500", full.turns(1000), 1000);
    }

    private static void latestTellsTheLatestTurn() {
        TurnTree t = new TurnTree();
        Check.due("leaf at first", t.latest(0), TurnTree.NONE);
        Check.due("id at first", t.latest(1), 0);
        Check.due("length at first", t.latest(2), TurnTree.NONE);
        t.turn();
        Check.due("leaf after no turn", t.latest(0), TurnTree.NONE);
        t.add(0, 1, 5);
        t.put(1, -7, 50);
        t.turn();
        t.turn();
        t.put(1, 8, 9);
        Check.due("leaf", t.latest(0), 1);
        Check.due("id", t.latest(1), -7);
        Check.due("length", t.latest(2), 50);
    }

    private static void holdCountsTurns() {
        TurnTree t = running();
        t.hold(1, 2);
        Check.due("held", t.about(1, 6), 2);
        Check.due("not open", t.about(1, 5), 0);
        Check.due("open leaves", t.count(2), 1);
        t.turn();
        Check.due("held after a turn", t.about(1, 6), 1);
        Check.due("not open after a turn", t.about(1, 5), 0);
        t.turn();
        Check.due("held no more", t.about(1, 6), 0);
        Check.due("open", t.about(1, 5), 1);
        t.hold(2, 1000);
        Check.due("held for long", t.about(2, 6), 1000);
        Check.due("turns", t.turns(1000), 4);
        Check.due("held for long", t.about(2, 6), 996);
    }

    private static void holdOfAllStopsTheTurns() {
        TurnTree t = running();
        t.hold(1, 1);
        t.hold(2, 1);
        Check.due("no turn", t.turn(), false);
        Check.due("the root is closed", t.about(0, 5), 0);
        Check.due("no turns", t.turns(10), 0);
        Check.due("still held", t.about(1, 6), 1);
        t.hold(2, 0);
        Check.due("turn", t.turn(), true);
        Check.due("held no more", t.about(1, 6), 0);
    }

    private static void holdEndsAndSetsTheTag() {
        TurnTree t = twoLeaves(1, 7);
        t.putAll(1, 1, 10, 10);
        t.putAll(2, 1, 1, 2);
        t.turns(2);
        t.hold(2, 2);
        t.turn();
        Check.due("rest while held", t.about(2, 2), UNIT % 7);
        Check.due("tag while held", t.sum(2, 0), UNIT / 7);
        t.turn();
        Check.due("time of the turn behind which it is open", t.sum(0, 1), 20 * UNIT);
        Check.due("tag", t.sum(2, 0), 20 * UNIT);
        Check.due("rest", t.about(2, 2), 0);
        t.turn();
        t.hold(2, 5);
        t.put(2, 1, 1);
        t.turns(2);
        t.hold(2, 0);
        Check.due("tag after hold(2, 0)", t.sum(2, 0), t.sum(0, 1));
    }

    private static void holdEndsInTheMidstOfTurns() {
        TurnTree t = twoLeaves(1, 1);
        t.putAll(1, 1, 10, 10);
        t.put(2, 1, 1);
        t.hold(2, 3);
        Check.due("turns", t.turns(5), 5);
        Check.due("leaf", t.latest(0), 1);
        Check.due("tag of 2", t.sum(2, 0), 21 * UNIT);
        Check.due("share of 2", t.sum(2, 2), 1);
    }

    private static void holdOnTwoLevels() {
        TurnTree t = new TurnTree();
        t.add(0, 1, 5);
        t.add(1, 1, 5);
        t.add(0, 1, 10);
        t.put(2, 1, 1);
        t.putAll(3, 1, 10, 10);
        t.hold(1, 2);
        t.hold(2, 2);
        t.turns(2);
        Check.due("1 is open", t.about(1, 5), 1);
        Check.due("2 is open", t.about(2, 5), 1);
        Check.due("tag of 1", t.sum(1, 0), 10 * UNIT);
        t.hold(2, 2);
        Check.due("1 has no open child", t.about(1, 5), 0);
        Check.due("1 is not held", t.about(1, 6), 0);
        t.hold(1, 1);
        t.turn();
        Check.due("1 has no open child yet", t.about(1, 5), 0);
        t.turn();
        Check.due("1 is open again", t.about(1, 5), 1);
        Check.due("tag of 1 again", t.sum(1, 0), 30 * UNIT);
    }

    private static void holdIsSetAnew() {
        TurnTree t = running();
        t.hold(1, 5);
        t.hold(1, 2);
        Check.due("held shorter", t.about(1, 6), 2);
        t.hold(1, 3);
        t.turns(2);
        Check.due("held longer", t.about(1, 6), 1);
        t.hold(1, 0);
        Check.due("held no more", t.about(1, 6), 0);
        Check.due("open", t.about(1, 5), 1);
        t.hold(1, 0);
        Check.due("open still", t.about(1, 5), 1);
    }

    private static void holdGoesAlong() {
        TurnTree t = running();
        t.add(0, 1, 1);
        t.hold(1, 4);
        t.move(1, 3);
        Check.due("held after the move", t.about(1, 6), 4);
        Check.due("3 is closed", t.about(3, 5), 0);
        t.turns(4);
        Check.due("3 is open", t.about(3, 5), 1);
        Check.due("tag of 3", t.sum(3, 0), t.sum(0, 1));
    }
}
