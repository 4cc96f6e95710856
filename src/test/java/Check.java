import java.util.function.Consumer;
import java.util.function.ObjIntConsumer;
import java.util.function.Supplier;

/** What the tests share: answers that are due, and calls that must be refused and change nothing. */
final class Check {
    static final Class<?> INDEX = IndexOutOfBoundsException.class;
    static final Class<?> ARGUMENT = IllegalArgumentException.class;
    static final Class<?> STATE = IllegalStateException.class;
    static final Class<?> UNSUPPORTED = UnsupportedOperationException.class;

    private static final int CLASS_NUMBERS = 64;

    private static int checks = 0;
    private static int wrong = 0;

    private Check() {
    }

    static void due(String call, long got, long want) {
        checks++;
        if (got != want) {
            wrong++;
            System.out.println(call + " answered " + got + ", due is " + want);
        }
    }

    static void due(String call, boolean got, boolean want) {
        due(call, got ? 1 : 0, want ? 1 : 0);
    }

    static void due(String call, String got, String want) {
        checks++;
        if (!got.equals(want)) {
            wrong++;
            System.out.println(call + " answered " + got + ", due is " + want);
        }
    }

    /** The call throws just this on an object that make makes, and leaves all of it as it was. */
    static void refused(String call, Class<?> want, Supplier<TurnTree> make, Consumer<TurnTree> run) {
        due(call + " throws", thrownBy(make.get(), run), want.getSimpleName());
        // Every class is asked on an object of its own: only its first 512 calls have an answer.
        for (int c = 0; c < CLASS_NUMBERS; c++) {
            TurnTree untouched = make.get();
            TurnTree touched = make.get();
            thrownBy(touched, run);
            due("class " + c + " after " + call, View.ofClass(touched, c), View.ofClass(untouched, c));
        }
        TurnTree touched = make.get();
        thrownBy(touched, run);
        due("all after " + call, View.ofAll(touched), View.ofAll(make.get()));
        due("what follows on " + call, View.ofFuture(touched), View.ofFuture(make.get()));
    }

    /** The same for each of these arguments. */
    static void refusedEach(String call, Class<?> want, Supplier<TurnTree> make,
            ObjIntConsumer<TurnTree> run, int... arguments) {
        for (int argument : arguments) {
            refused(call + " with " + argument, want, make, t -> run.accept(t, argument));
        }
    }

    /** The call throws nothing, for each of these arguments, each on an object of its own. */
    static void allowedEach(String call, Supplier<TurnTree> make, ObjIntConsumer<TurnTree> run,
            int... arguments) {
        for (int argument : arguments) {
            due(call + " with " + argument + " throws",
                    thrownBy(make.get(), t -> run.accept(t, argument)), "nothing");
        }
    }

    /** The simple name of what the call throws, or "nothing". */
    static String thrownBy(TurnTree tree, Consumer<TurnTree> run) {
        try {
            run.accept(tree);
            return "nothing";
        } catch (RuntimeException e) {
            return e.getClass().getSimpleName();
        }
    }

    /** Says how it went, and ends the program. */
    static void end() {
        System.out.println(checks + " checks, " + wrong + " wrong");
        System.exit(wrong == 0 && checks > 0 ? 0 : 1);
    }
}
