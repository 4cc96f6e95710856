/** Promises 13, 15, 16 and 17: what an object tells about its classes and in all. */
public final class AnswersTest {
    public static void main(String[] args) {
        childrenAreInOrder();
        sumsOfAClass();
        aboutAClass();
        countsOfAll();
        askingChangesNothing();
        Check.end();
    }

    /** 1 holds the leaves 2 and 3, the root the leaf 4; 2, 3 and 4 have had turns and have packets. */
    private static TurnTree running() {
        TurnTree t = new TurnTree();
        t.add(0, 3, 10);
        t.add(1, 7, 11);
        t.add(1, 5, 12);
        t.add(0, 1, 13);
        t.putAll(2, 20, 100, 4);
        t.putAll(3, 30, 10, 4);
        t.putAll(4, 40, 50, 4);
        t.turns(5);
        return t;
    }

    private static void childrenAreInOrder() {
        TurnTree t = new TurnTree();
        for (int i = 1; i <= 4; i++) {
            t.add(0, 1, 10);
        }
        t.put(1, 1, 30);
        t.put(3, 1, 20);
        t.turns(2);
        int[] order = {2, 4, 3, 1};
        for (int k = 0; k < order.length; k++) {
            Check.due("child(0, " + k + ")", t.child(0, k), order[k]);
        }
        t.hold(2, 7);
        Check.due("a held one", t.child(0, 0), 2);
        t.remove(2);
        Check.due("behind a removed one", t.child(0, 0), 4);
        t.move(3, 4);
        Check.due("one alone", t.child(4, 0), 3);
        Check.due("the last one", t.child(0, 1), 1);
    }

    private static void dueSums(TurnTree t, int c, long tag, long time, long share, long bytes) {
        Check.due("sum(" + c + ", 0)", t.sum(c, 0), tag);
        Check.due("sum(" + c + ", 1)", t.sum(c, 1), time);
        Check.due("sum(" + c + ", 2)", t.sum(c, 2), share);
        Check.due("sum(" + c + ", 3)", t.sum(c, 3), bytes);
    }

    /** The turns: 2 (100), 4 (50), 3 (10), 3 (10), 3 (10). */
    private static void sumsOfAClass() {
        TurnTree t = running();
        dueSums(t, 0, 0, 2621440, 180, 460);
        dueSums(t, 1, 2839893, 262144, 130, 310);
        dueSums(t, 2, 936228, 0, 100, 300);
        dueSums(t, 3, 393216, 0, 30, 10);
        dueSums(t, 4, 3276800, 0, 50, 150);
    }

    private static void dueAbout(TurnTree t, int c, int... answers) {
        for (int what = 0; what < answers.length; what++) {
            Check.due("about(" + c + ", " + what + ")", t.about(c, what), answers[what]);
        }
    }

    private static void aboutAClass() {
        TurnTree t = running();
        t.hold(2, 6);
        dueAbout(t, 0, TurnTree.NONE, 0, 0, 2, 7, 1, 0, 0);
        dueAbout(t, 1, 0, 3, 1, 2, 4, 1, 0, 10);
        dueAbout(t, 2, 1, 7, 4, 0, 3, 0, 6, 11);
        dueAbout(t, 3, 1, 5, 0, 0, 1, 1, 0, 12);
        dueAbout(t, 4, 0, 1, 0, 0, 3, 1, 0, 13);
        t.hold(3, 1);
        dueAbout(t, 1, 0, 3, 1, 2, 4, 0, 0, 10);
    }

    private static void countsOfAll() {
        TurnTree t = running();
        Check.due("counts", View.ofAll(t), "counts 5 7 3 5 0 latest 3 32 10");
        t.hold(1, 9);
        Check.due("an open leaf under a held class", t.count(2), 3);
        t.hold(2, 9);
        Check.due("a held leaf", t.count(2), 2);
        t.putAll(4, 1, 1, 500);
        t.put(4, 1, 1);
        t.clear(1);
        Check.due("dropped by all three", t.count(4), 1 + 1 + 4);
        Check.due("packets", t.count(1), 13);
        Check.due("open leaves", t.count(2), 1);
    }

    private static void askingChangesNothing() {
        TurnTree t = running();
        for (int c = 0; c < 5; c++) {
            String first = View.ofClass(t, c);
            Check.due("class " + c + " asked again", View.ofClass(t, c), first);
        }
    }
}
