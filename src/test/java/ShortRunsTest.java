import java.util.ArrayList;
import java.util.List;
import java.util.function.Consumer;
import java.util.function.ToLongFunction;

/**
 * Every run of a few calls out of a list, behind some beginnings: the last answer and all that can be
 * asked behind it are those of PlainTree. So each call is tried behind each other one, and behind each
 * that is refused. An argument says how many calls a run has, if it is not the usual number.
 */
public final class ShortRunsTest {
    private static final int USUAL_CALLS = 3;
    private static final int CLASSES_ASKED = 8;

    /** A call, to be made on an object and on the plain model. */
    private record Call(String text, ToLongFunction<TurnTree> onTree, ToLongFunction<PlainTree> onPlain) {
    }

    private final List<Call> choice = new ArrayList<>();
    private final List<Call> run = new ArrayList<>();

    public static void main(String[] args) {
        int calls = args.length > 0 ? Integer.parseInt(args[0]) : USUAL_CALLS;
        fromNothing().tryAll(new PlainTree(), calls);
        ShortRunsTest twoFloors = onTwoFloors();
        for (List<Call> beginning : beginnings()) {
            twoFloors.tryBehind(beginning, calls);
        }
        Check.end();
    }

    /** The first calls of a new object. */
    private static ShortRunsTest fromNothing() {
        ShortRunsTest test = new ShortRunsTest();
        for (int parent = 0; parent < 3; parent++) {
            test.choice.add(add(parent, 3, 2));
        }
        for (int c = 0; c < 3; c++) {
            test.choice.add(put(c, 7));
            test.choice.add(hold(c, 1));
            test.choice.add(remove(c));
            test.choice.add(clear(c));
            test.choice.add(move(c, 2 - c));
        }
        test.choice.add(turn());
        test.choice.add(weight(1, 2));
        test.choice.add(putAll(1, 2, 3));
        return test;
    }

    /** On a tree of three classes under the root: 1 with the leaves 2 and 3, the leaf 4, 6 with the leaf 5. */
    private static ShortRunsTest onTwoFloors() {
        ShortRunsTest test = new ShortRunsTest();
        test.choice.add(add(0, 1, 1));
        test.choice.add(add(2, 5, 2));
        test.choice.add(remove(3));
        test.choice.add(weight(1, 7));
        test.choice.add(weight(2, 3));
        test.choice.add(move(2, 0));
        test.choice.add(move(2, 1));
        test.choice.add(move(2, 5));
        test.choice.add(move(1, 5));
        test.choice.add(move(4, 1));
        test.choice.add(put(2, 9));
        test.choice.add(put(3, 2));
        test.choice.add(put(4, 2000));
        test.choice.add(putAll(5, 1, 2));
        test.choice.add(turn());
        test.choice.add(turns(2));
        test.choice.add(hold(1, 1));
        test.choice.add(hold(1, 0));
        test.choice.add(hold(2, 1));
        test.choice.add(hold(2, 2));
        test.choice.add(hold(4, 1));
        test.choice.add(hold(6, 2));
        test.choice.add(clear(1));
        test.choice.add(clear(4));
        return test;
    }

    private static List<List<Call>> beginnings() {
        List<Call> empty = List.of(add(0, 3, 2), add(1, 7, 3), add(1, 1, 2), add(0, 2, 2), add(0, 5, 2),
                add(0, 4, 2), move(5, 6));
        List<Call> begun = with(empty, putAll(2, 4, 3), put(3, 5), putAll(4, 3, 2), turns(2));
        List<Call> late = with(empty, putAll(4, 2000, 2), put(2, 1999), turns(3), put(3, 1), put(2, 1), put(4, 1));
        List<Call> held = with(begun, hold(2, 1), put(5, 6), hold(4, 2));
        return List.of(empty, begun, late, held);
    }

    private static List<Call> with(List<Call> calls, Call... more) {
        List<Call> all = new ArrayList<>(calls);
        all.addAll(List.of(more));
        return all;
    }

    private void tryBehind(List<Call> beginning, int calls) {
        PlainTree plain = new PlainTree();
        for (Call call : beginning) {
            answer(call.onPlain, plain);
        }
        run.addAll(beginning);
        tryAll(plain, calls);
        run.clear();
    }

    private void tryAll(PlainTree before, int calls) {
        for (Call call : choice) {
            PlainTree plain = before.copy();
            String due = answer(call.onPlain, plain);
            run.add(call);
            Check.due(name(), onTree(), due + state(plain));
            if (calls > 1) {
                tryAll(plain, calls - 1);
            }
            run.remove(run.size() - 1);
        }
    }

    private String onTree() {
        TurnTree tree = new TurnTree();
        String last = "";
        for (Call call : run) {
            last = answer(call.onTree, tree);
        }
        return last + state(Answers.of(tree));
    }

    private String name() {
        StringBuilder text = new StringBuilder();
        for (Call call : run) {
            text.append(call.text).append("; ");
        }
        return text.toString();
    }

    private static String state(Answers of) {
        StringBuilder text = new StringBuilder("; ").append(View.ofAll(of));
        for (int c = 0; c < CLASSES_ASKED; c++) {
            text.append("; ").append(c).append(' ').append(View.ofClass(of, c));
        }
        return text.toString();
    }

    private static <T> String answer(ToLongFunction<T> call, T on) {
        try {
            return Long.toString(call.applyAsLong(on));
        } catch (RuntimeException e) {
            return e.getClass().getSimpleName();
        }
    }

    private static <T> ToLongFunction<T> done(Consumer<T> call) {
        return on -> {
            call.accept(on);
            return 0;
        };
    }

    private static Call add(int parent, int weight, int limit) {
        return new Call("add(" + parent + ", " + weight + ", " + limit + ")",
                t -> t.add(parent, weight, limit), p -> p.add(parent, weight, limit));
    }

    private static Call remove(int c) {
        return new Call("remove(" + c + ")", done(t -> t.remove(c)), done(p -> p.remove(c)));
    }

    private static Call weight(int c, int weight) {
        return new Call("weight(" + c + ", " + weight + ")",
                done(t -> t.weight(c, weight)), done(p -> p.weight(c, weight)));
    }

    private static Call move(int c, int parent) {
        return new Call("move(" + c + ", " + parent + ")",
                done(t -> t.move(c, parent)), done(p -> p.move(c, parent)));
    }

    private static Call put(int c, int length) {
        return new Call("put(" + c + ", 100, " + length + ")",
                t -> t.put(c, 100, length) ? 1 : 0, p -> p.put(c, 100, length) ? 1 : 0);
    }

    private static Call putAll(int c, int length, int n) {
        return new Call("putAll(" + c + ", 200, " + length + ", " + n + ")",
                t -> t.putAll(c, 200, length, n), p -> p.putAll(c, 200, length, n));
    }

    private static Call turn() {
        return new Call("turn()", t -> t.turn() ? 1 : 0, p -> p.turn() ? 1 : 0);
    }

    private static Call turns(int n) {
        return new Call("turns(" + n + ")", t -> t.turns(n), p -> p.turns(n));
    }

    private static Call hold(int c, int turns) {
        return new Call("hold(" + c + ", " + turns + ")", done(t -> t.hold(c, turns)), done(p -> p.hold(c, turns)));
    }

    private static Call clear(int c) {
        return new Call("clear(" + c + ")", t -> t.clear(c), p -> p.clear(c));
    }
}
