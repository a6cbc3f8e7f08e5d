import java.util.function.Supplier;
import java.util.function.ToLongFunction;

/**
 * Two objects made alike, one of which gets a call more that must change nothing: they are alike
 * then, after each step that is taken back, and back at the image.
 */
final class Twins {
    /** A call with a number that the test draws. */
    interface Call {
        long on(PatchedColumns x, int number);
    }

    private final Due due;
    private final Supplier<PatchedColumns> made;
    private final int steps;

    Twins(Due due, Supplier<PatchedColumns> made) {
        this.due = due;
        this.made = made;
        steps = made.get().about(1);
    }

    /** The call answers this, and changes nothing. */
    Twins answers(long want, String name, ToLongFunction<PatchedColumns> call) {
        due.is(name, call.applyAsLong(made.get()), want);
        return keeps(name, call);
    }

    /** So for each of these numbers. */
    Twins answersEach(long want, String name, int[] numbers, Call call) {
        for (int number : numbers) {
            answers(want, name + " with " + number, x -> call.on(x, number));
        }
        return this;
    }

    Twins keeps(String name, ToLongFunction<PatchedColumns> call) {
        for (int undone = 0; undone <= steps; undone++) {
            due.same(name + " and " + undone + " steps back", later(call, undone), later(null, undone));
        }
        PatchedColumns one = made.get();
        call.applyAsLong(one);
        PatchedColumns other = made.get();
        due.is(name + " and back", one.back(), other.back());
        due.same(name + " and back", seen(one), seen(other));
        return this;
    }

    /** A fresh one each time, so that none gets more than 512 calls. */
    private String later(ToLongFunction<PatchedColumns> call, int undone) {
        PatchedColumns x = made.get();
        if (call != null) {
            call.applyAsLong(x);
        }
        for (int i = 0; i < undone; i++) {
            x.undo();
        }
        return seen(x);
    }

    /** All that can be asked of an object's state, as a text. */
    static String seen(PatchedColumns x) {
        StringBuilder out = new StringBuilder();
        for (int c = 0; c < 3; c++) {
            out.append("column ").append(c).append(':').append(words(x, c)).append("; ");
        }
        out.append("pending:");
        for (int i = 0; i < x.about(0); i++) {
            out.append(' ').append(x.pending(i));
        }
        out.append("; steps ").append(x.about(1)).append("; X ").append(x.about(3)).append("; tape:");
        for (int i = 0; i < x.about(2); i++) {
            out.append(' ').append(x.tape(i));
        }
        return out.append("; fault ").append(x.fault(0)).append(' ').append(x.fault(1)).toString();
    }

    /** A column's blocks as they are told: their words have all that they are. */
    static String words(PatchedColumns x, int column) {
        StringBuilder out = new StringBuilder();
        for (int b = 0; b < x.column(column, 0); b++) {
            int words = x.block(column, b, 6);
            for (int i = 0; i < words; i++) {
                out.append(' ').append(Integer.toHexString(x.bits(column, b, i)));
            }
            out.append(" |");
        }
        return out.toString();
    }
}
