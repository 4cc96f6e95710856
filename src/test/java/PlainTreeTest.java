import java.util.function.LongSupplier;

/** Long runs of made-up calls, mostly fitting and some wrong: each answer is the one of PlainTree. */
public final class PlainTreeTest {
    private static final int RUNS = 400;
    private static final int CALLS = 512;

    private long seed;
    private final TurnTree tree = new TurnTree();
    private final PlainTree plain = new PlainTree();
    /** Runs differ in how large they become, so that some meet the edges of the document. */
    private final int classNumbers;
    private final int mostLength;
    private final int mostWeight;
    private final int mostLimit;
    private final int mostAtOnce;

    private PlainTreeTest(int run) {
        seed = 1000003L * run + 17;
        classNumbers = new int[] {4, 8, 20, 66}[run % 4];
        mostLength = new int[] {3, 100, 2000}[run / 4 % 3];
        mostWeight = new int[] {1, 9, 1000}[run / 12 % 3];
        mostLimit = new int[] {5, 60, 2000}[run / 36 % 3];
        mostAtOnce = mostLimit == 2000 && classNumbers < 10 ? 500 : Math.min(mostLimit, 30);
    }

    public static void main(String[] args) {
        for (int run = 0; run < RUNS; run++) {
            PlainTreeTest test = new PlainTreeTest(run);
            for (int call = 0; call < CALLS; call++) {
                test.call("run " + run + ", call " + call + ": ");
            }
        }
        Check.end();
    }

    /** A number from 0 on, below a bound; the same ones in every run of this program. */
    private int below(int bound) {
        seed = seed * 6364136223846793005L + 1442695040888963407L;
        return (int) ((seed >>> 33) % bound);
    }

    private int between(int least, int most) {
        return least + below(most - least + 1);
    }

    /** Mostly one of least .. most; now and then an edge, or a number beside it. */
    private int fitting(int least, int most, int edge) {
        switch (below(40)) {
            case 0: return least - 1;
            case 1: return least;
            case 2: return edge;
            case 3: return edge + 1;
            default: return between(least, most);
        }
    }

    private int anyClass() {
        int c = fitting(0, classNumbers - 1, 63);
        for (int i = 0; i < 6 && below(8) != 0 && noClass(c); i++) {
            c = below(classNumbers);
        }
        return c;
    }

    private boolean noClass(int c) {
        try {
            plain.about(c, 0);
            return false;
        } catch (IndexOutOfBoundsException e) {
            return true;
        }
    }

    private int anyLeaf() {
        int c = anyClass();
        for (int i = 0; i < 10 && below(12) != 0 && (noClass(c) || c == 0 || plain.about(c, 3) > 0); i++) {
            c = anyClass();
        }
        return c;
    }

    private void same(String call, LongSupplier got, LongSupplier want) {
        Check.due(call, answer(got), answer(want));
    }

    private static String answer(LongSupplier call) {
        try {
            return Long.toString(call.getAsLong());
        } catch (RuntimeException e) {
            // A list of the library throws a class of its own below this one.
            return e instanceof IndexOutOfBoundsException ? "IndexOutOfBoundsException"
                    : e.getClass().getSimpleName();
        }
    }

    private static long done(Runnable call) {
        call.run();
        return 0;
    }

    private void call(String where) {
        int kind = below(100);
        if (kind < 30) {
            changeClasses(where, kind);
        } else if (kind < 60) {
            sendPackets(where, kind);
        } else {
            ask(where, kind);
        }
    }

    private void changeClasses(String where, int kind) {
        int c = anyClass();
        int weight = fitting(1, mostWeight, 1000);
        if (kind < 12) {
            int limit = fitting(1, mostLimit, 2000);
            String call = where + "add(" + c + ", " + weight + ", " + limit + ")";
            same(call, () -> tree.add(c, weight, limit), () -> plain.add(c, weight, limit));
        } else if (kind < 15) {
            String call = where + "remove(" + c + ")";
            same(call, () -> done(() -> tree.remove(c)), () -> done(() -> plain.remove(c)));
        } else if (kind < 18) {
            String call = where + "weight(" + c + ", " + weight + ")";
            same(call, () -> done(() -> tree.weight(c, weight)), () -> done(() -> plain.weight(c, weight)));
        } else if (kind < 24) {
            int to = anyClass();
            String call = where + "move(" + c + ", " + to + ")";
            same(call, () -> done(() -> tree.move(c, to)), () -> done(() -> plain.move(c, to)));
        } else {
            int n = fitting(0, 12, 1000);
            String call = where + "hold(" + c + ", " + n + ")";
            same(call, () -> done(() -> tree.hold(c, n)), () -> done(() -> plain.hold(c, n)));
        }
    }

    private void sendPackets(String where, int kind) {
        int c = anyLeaf();
        int id = below(20) == 0 ? Integer.MAX_VALUE - below(3) : between(-1000, 1000);
        int length = fitting(1, mostLength, 2000);
        if (kind < 38) {
            String call = where + "put(" + c + ", " + id + ", " + length + ")";
            same(call, () -> tree.put(c, id, length) ? 1 : 0, () -> plain.put(c, id, length) ? 1 : 0);
        } else if (kind < 45) {
            int n = fitting(0, mostAtOnce, 500);
            String call = where + "putAll(" + c + ", " + id + ", " + length + ", " + n + ")";
            same(call, () -> tree.putAll(c, id, length, n), () -> plain.putAll(c, id, length, n));
        } else if (kind < 53) {
            same(where + "turn()", () -> tree.turn() ? 1 : 0, () -> plain.turn() ? 1 : 0);
        } else if (kind < 59) {
            int n = fitting(0, 12, 1000);
            String call = where + "turns(" + n + ")";
            same(call, () -> tree.turns(n), () -> plain.turns(n));
        } else {
            same(where + "clear(" + c + ")", () -> tree.clear(c), () -> plain.clear(c));
        }
    }

    private void ask(String where, int kind) {
        int c = anyClass();
        int k = between(-1, 8);
        String on = "(" + c + ", " + k + ")";
        if (kind < 66) {
            same(where + "child" + on, () -> tree.child(c, k), () -> plain.child(c, k));
        } else if (kind < 70) {
            same(where + "packet" + on, () -> tree.packet(c, k), () -> plain.packet(c, k));
        } else if (kind < 80) {
            same(where + "sum" + on, () -> tree.sum(c, k), () -> plain.sum(c, k));
        } else if (kind < 91) {
            same(where + "about" + on, () -> tree.about(c, k), () -> plain.about(c, k));
        } else if (kind < 95) {
            same(where + "latest(" + k + ")", () -> tree.latest(k), () -> plain.latest(k));
        } else {
            same(where + "count(" + k + ")", () -> tree.count(k), () -> plain.count(k));
        }
    }
}
