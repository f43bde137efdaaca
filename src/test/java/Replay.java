import java.util.function.Consumer;
import java.util.function.ToLongFunction;

/** A house that is made by the same calls each time, anew for each call that is tried on it. */
final class Replay {
    private final Consumer<BookHouse> calls;
    private long[] answers;

    Replay(Consumer<BookHouse> calls) {
        this.calls = calls;
    }

    /** A house on which more calls are made. */
    Replay then(Consumer<BookHouse> more) {
        return new Replay(calls.andThen(more));
    }

    /** The call answers so on this house. */
    void due(Check.Case c, long want, ToLongFunction<BookHouse> call) {
        BookHouse x = new BookHouse();
        calls.accept(x);
        c.due(want, call.applyAsLong(x));
    }

    /** The call answers so, and the house tells the same of everything as without it. */
    void refused(Check.Case c, long want, ToLongFunction<BookHouse> call) {
        due(c, want, call);
        unchanged(c, call);
    }

    /** So does a call that asks alone. */
    void asked(Check.Case c, long want, ToLongFunction<BookHouse> call) {
        refused(c, want, call);
    }

    private void unchanged(Check.Case c, ToLongFunction<BookHouse> call) {
        if (answers == null) answers = Probe.answers(calls);
        long[] after = Probe.answers(calls.andThen(call::applyAsLong));
        for (int k = 0; k < answers.length; k++) {
            if (answers[k] == after[k]) continue;
            c.wrong("behind it " + Probe.name(k) + " answered " + after[k] + ", without it " + answers[k]);
            return;
        }
    }
}
