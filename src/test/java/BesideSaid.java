import java.util.function.Consumer;

/** Promises 2 to 24: what a call changes, and that all beside it stays as it is. */
final class BesideSaid {
    /** What Twins.seen tells, piece by piece, each by a sign. */
    private static final String PIECES = "012psxtf";

    private BesideSaid() {
    }

    static void tell(Sentences said) {
        pendingAndTape(said);
        stepsOfOneColumn(said);
        otherSteps(said);
    }

    /** The call changes these pieces of the object that mixed() makes, and no other. */
    private static void alone(Sentences said, int promise, String words, String changed,
            Consumer<PatchedColumns> call) {
        said.promise(promise).that(words, due -> {
            PatchedColumns x = Made.mixed();
            String[] before = Twins.seen(x).split("; ");
            call.accept(x);
            String[] then = Twins.seen(x).split("; ");
            due.is("pieces", then.length, PIECES.length());
            for (int i = 0; i < PIECES.length(); i++) {
                if (changed.indexOf(PIECES.charAt(i)) < 0) {
                    due.same("stays", then[i], before[i]);
                } else {
                    due.no("stays: " + then[i], then[i].equals(before[i]));
                }
            }
        });
    }

    private static void pendingAndTape(Sentences said) {
        alone(said, 2, "PUT:", "p", x -> x.put(4));
        alone(said, 3, "A GAP:", "p", x -> x.gap());
        alone(said, 4, "Nothing is PENDING any more", "p", x -> x.forget());
        alone(said, 19, "X is told", "x", x -> x.tell(5));
        alone(said, 20, "A WORD comes behind THE TAPE:", "t", x -> x.word(5));
        alone(said, 21, "THE TAPE has its first n WORDS alone:", "t", x -> x.end(1));
        alone(said, 22, "The i-th WORD of THE TAPE", "", x -> x.tape(1));
        alone(said, 23, "SAVED:", "t", x -> x.save(0));
        alone(said, 64, "THE IMAGE is as all is now:", "", x -> x.image());
    }

    private static void stepsOfOneColumn(Sentences said) {
        alone(said, 6, "SET:", "0s", x -> x.set(0, 1, 99));
        alone(said, 7, "CLEARED:", "1s", x -> x.clear(1, 0));
        alone(said, 8, "INSERTED:", "0s", x -> x.insert(0, 1, 99));
        alone(said, 9, "REMOVED:", "0s", x -> x.remove(0, 1));
        alone(said, 10, "SPLIT:", "0s", x -> x.split(0, 0, 1));
        alone(said, 11, "SHIFTED:", "0s", x -> x.shift(0, 5));
        alone(said, 15, "DROPPED:", "0s", x -> x.drop(0, 0));
        alone(said, 16, "JOINED:", "0s", x -> x.join(0));
        alone(said, 17, "CUT ANEW:", "0s", x -> x.recut(0));
    }

    private static void otherSteps(Sentences said) {
        alone(said, 5, "FLUSHED:", "2ps", x -> x.flush(2));
        alone(said, 12, "MERGED:", "0s", x -> x.merge(1, 2, 0));
        alone(said, 13, "COPIED:", "1s", x -> x.copy(0, 1, 4, 1));
        alone(said, 14, "SWAPPED:", "01s", x -> x.swap(0, 1));
        alone(said, 18, "WALKED:", "2sx", x -> x.walk(2, 5, 5, 20));
        alone(said, 24, "OPENED:", "2stf", x -> {
            x.save(0);
            x.open(2);
        });
        alone(said, 24, "NONE: it has a FAULT (the COLUMN stays);", "tf", x -> x.open(2));
    }
}
