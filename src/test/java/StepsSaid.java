import java.util.LinkedHashMap;
import java.util.Map;
import java.util.function.ToLongFunction;

/** Terms: STEPS; II: AN IMAGE; promises 26, 64 to 66. */
final class StepsSaid {
    private static final int NONE = Made.NONE;

    private StepsSaid() {
    }

    static void tell(Sentences said) {
        said.in(Sentences.TERMS);
        steps(said);
        undo(said);
        image(said);
        about(said);
    }

    /** Every step, each with what it must answer of the object that mixed() makes. */
    private static Map<String, ToLongFunction<PatchedColumns>> everyStep() {
        Map<String, ToLongFunction<PatchedColumns>> steps = new LinkedHashMap<>();
        steps.put("flush", x -> x.flush(0));
        steps.put("set", x -> x.set(0, 1, 99));
        steps.put("set as it is", x -> x.set(0, 1, 7));
        steps.put("clear", x -> x.clear(1, 0));
        steps.put("clear what is empty", x -> x.clear(1, 1));
        steps.put("insert", x -> x.insert(0, 1, 99));
        steps.put("remove", x -> x.remove(0, 1));
        steps.put("split", x -> x.split(0, 0, 1));
        steps.put("shift", x -> x.shift(0, 5));
        steps.put("shift by 0", x -> x.shift(0, 0));
        steps.put("merge", x -> x.merge(1, 2, 0));
        steps.put("copy", x -> x.copy(0, 1, 4, 1));
        steps.put("swap", x -> x.swap(0, 1) ? 1 : 0);
        steps.put("drop", x -> x.drop(0, 0));
        steps.put("join", x -> x.join(0));
        steps.put("recut", x -> x.recut(0));
        steps.put("walk", x -> x.walk(2, 5, 5, 20));
        steps.put("open", x -> {
            x.save(1);
            return x.open(0);
        });
        return steps;
    }

    private static String withoutTape(PatchedColumns x) {
        return Twins.seen(x).replaceAll("; tape:.*", "");
    }

    private static PatchedColumns twentyFive() {
        PatchedColumns x = Made.with(0);
        for (int i = 1; i <= 25; i++) {
            x.set(0, 0, i);
        }
        return x;
    }

    private static void steps(Sentences said) {
        said.that("STEPS that are taken back: FLUSHED, SET, CLEARED, INSERTED, REMOVED, SPLIT, SHIFTED, "
                + "MERGED, COPIED, SWAPPED, DROPPED, JOINED, CUT ANEW, WALKED, OPENED:", due ->
            everyStep().forEach((name, step) -> {
                PatchedColumns x = Made.mixed();
                due.yes(name + " can be", step.applyAsLong(x) >= 0);
                due.is(name + " is a step", x.about(1), 4);
                due.is("undo " + name, x.undo(), 3);
                due.same("undo " + name, withoutTape(x), withoutTape(Made.mixed()));
            })
        ).that("the latest 20,", due -> {
            PatchedColumns x = twentyFive();
            due.is("steps", x.about(1), 20);
            for (int i = 19; i >= 0; i--) {
                due.is("undo", x.undo(), i);
            }
            due.is("no 21st", x.undo(), NONE);
            due.is("as ahead of the latest 20", x.value(0, 0), 5);
            for (int i = 6; i <= 100; i++) {
                x.set(0, 0, i);
                due.is("steps", x.about(1), Math.min(20, i - 5));
            }
            for (int i = 99; i >= 80; i--) {
                x.undo();
                due.is("as ahead of the latest of 100", x.value(0, 0), i);
            }
            due.is("no 21st", x.undo(), NONE);
            x = Made.with(0);
            for (int i = 1; i < 20; i++) {
                x.set(0, 0, i);
            }
            due.is("just 20", x.about(1), 20);
            for (int i = 0; i < 20; i++) {
                x.undo();
            }
            due.is("all of them", x.column(0, 0), 0);
        }).that("the latest first", due -> {
            PatchedColumns x = twentyFive();
            for (int i = 24; i >= 5; i--) {
                x.undo();
                due.is("value", x.value(0, 0), i);
            }
            x.set(0, 0, 70);
            x.set(0, 0, 71);
            x.undo();
            due.is("then new ones", x.value(0, 0), 70);
            x.undo();
            due.is("and the first of them", x.value(0, 0), 5);
        }).that("(COLUMNS, PENDING and X are as ahead of it;", due -> {
            PatchedColumns x = Made.with(1, 2);
            x.put(3);
            x.tell(50);
            x.walk(1, 0, 5, 3);
            x.gap();
            x.tell(9);
            due.is("undo", x.undo(), 1);
            due.same("column 0", Made.shown(x, 0), "1 2 |");
            due.is("column 1", x.column(1, 0), 0);
            due.is("pending", x.about(0), 1);
            due.is("it is", x.pending(0), 3);
            due.is("X", x.about(3), 50);
            x = Made.wasted();
            x.shift(0, 0);
            x.undo();
            due.is("blocks as they were told", x.column(0, 5), 11);
            x.put(7);
            x.flush(2);
            x.put(8);
            x.undo();
            due.is("what was flushed is pending again", x.about(0), 1);
            due.is("it is", x.pending(0), 7);
        }).that("THE TAPE stays as it is).", due -> {
            PatchedColumns x = Made.mixed();
            x.undo();
            due.is("words", x.about(2), 2);
            due.is("the first", x.tape(0), 9);
            x.save(1);
            int words = x.about(2);
            due.is("open", x.open(0), 3);
            x.undo();
            due.is("what was opened is gone", x.about(2), 0);
            x.save(1);
            x.undo();
            due.is("what was saved stays", x.about(2), words);
        });
    }

    private static void undo(Sentences said) {
        said.promise(26).that("The latest STEP is taken back: how many can be yet.", due -> {
            PatchedColumns x = Made.mixed();
            for (int i = 2; i >= 0; i--) {
                due.is("undo", x.undo(), i);
                due.is("steps", x.about(1), i);
            }
            due.is("nothing is left", x.image(), 0);
        }).that("NONE: there is none.", due -> {
            new Twins(due, PatchedColumns::new).answers(NONE, "undo", x -> x.undo());
            new Twins(due, StepsSaid::withoutSteps).answers(NONE, "undo", x -> x.undo());
        });
    }

    private static PatchedColumns withoutSteps() {
        PatchedColumns x = Made.mixed();
        for (int i = 0; i < 3; i++) {
            x.undo();
        }
        x.put(4);
        x.tell(70);
        return x;
    }

    private static void image(Sentences said) {
        said.in(Sentences.SECOND).that("AN IMAGE: all as it is,", due -> {
            everyStep().forEach((name, step) -> {
                PatchedColumns z = Made.mixed();
                z.image();
                step.applyAsLong(z);
                z.forget();
                z.tell(5);
                z.back();
                due.same("back from " + name, withoutTape(z), withoutTape(Made.mixed()));
            });
            PatchedColumns x = Made.mixed();
            x.image();
            // Other steps come in place of those that the image has.
            for (int i = 0; i < 3; i++) {
                x.undo();
            }
            x.forget();
            x.tell(3);
            for (int i = 0; i < 3; i++) {
                x.walk(i, 5, 5, 20);
            }
            x.back();
            due.is("its steps, too", x.about(1), 3);
            PatchedColumns y = Made.mixed();
            for (int i = 0; i < 3; i++) {
                due.is("undo", x.undo(), y.undo());
                due.same("undo", withoutTape(x), withoutTape(y));
            }
        }).that("but THE TAPE and the latest FAULT.", due -> {
            PatchedColumns x = Made.mixed();
            x.image();
            x.word(77);
            x.back();
            due.is("words", x.about(2), 3);
            due.is("the last", x.tape(2), 77);
            x.open(0);
            // Ten places told by width 0, and then -4, which leaves 1s to fill up the word.
            due.is("another fault than the image's", x.fault(0), 7);
            x.back();
            due.is("words", x.about(2), 0);
            due.is("the fault stays", x.fault(0), 7);
            due.is("its bit stays", x.fault(1), 49);
            x.open(0);
            x.back();
            due.is("none stays none", x.fault(0), 0);
        }).that("BACK: all is so again.", due -> {
            PatchedColumns x = Made.mixed();
            due.is("places of the image", x.back(), 6);
            due.same("column 0", Made.shown(x, 0), "5 7 6 |");
            due.same("column 1", Made.shown(x, 1), "10 _ 30 |");
            due.is("pending", x.about(0), 0);
            due.is("X", x.about(3), 647);
            due.is("steps", x.about(1), 2);
            x = Made.wasted();
            x.image();
            x.recut(0);
            x.back();
            due.is("as they were told", x.column(0, 5), 11);
        });
        said.promise(64).that("THE IMAGE is as all is now:", due -> {
            PatchedColumns x = Made.mixed();
            x.image();
            x.drop(0, 0);
            x.back();
            due.same("the latest image", Made.shown(x, 0), "5 7 6 | 8 _ |");
            due.is("it is no step", x.about(1), 3);
            x.drop(0, 0);
            x.image();
            x.drop(0, 0);
            x.back();
            due.same("another one", Made.shown(x, 0), "8 _ |");
        }).that("PLACES of all COLUMNS.", due -> {
            due.is("none", new PatchedColumns().image(), 0);
            due.is("5 and 3, none that is pending", Made.mixed().image(), 8);
            PatchedColumns x = Made.full();
            x.copy(0, 0, 128, 1);
            x.copy(0, 0, 128, 2);
            due.is("384", x.image(), 384);
        });
        said.promise(65).that("BACK to THE IMAGE (it stays):", due -> {
            PatchedColumns x = Made.mixed();
            x.back();
            x.drop(0, 0);
            x.walk(1, 5, 5, 30);
            x.back();
            due.same("again", Made.shown(x, 0), "5 7 6 |");
            due.is("steps again", x.about(1), 2);
            x.undo();
            x.undo();
            x.back();
            due.is("once more", x.about(1), 2);
            due.same("once more", Made.shown(x, 0), "5 7 6 |");
            x = Made.mixed();
            x.set(0, 0, 50);
            x.set(0, 0, 51);
            x.undo();
            x.back();
            due.same("what is taken back is none of it", Made.shown(x, 0), "5 7 6 |");
        }).that("PLACES of all COLUMNS.", due -> {
            due.is("of a new one", Made.full().back(), 0);
            due.is("of the image", Made.mixed().back(), 6);
            PatchedColumns x = Made.mixed();
            x.image();
            x.drop(0, 0);
            due.is("none that is pending", x.back(), 8);
        });
    }

    private static void about(Sentences said) {
        said.promise(66).that("0 PLACES that are PENDING, 1 STEPS that can be taken back, 2 WORDS of THE TAPE, "
                + "3 X.", due -> {
            PatchedColumns x = Made.mixed();
            x.word(1);
            x.word(1);
            due.is("0", x.about(0), 2);
            due.is("1", x.about(1), 3);
            due.is("2", x.about(2), 4);
            due.is("3", x.about(3), 77);
        }).that("NONE for others.", due ->
            new Twins(due, Made::mixed).answersEach(NONE, "about", Made.outside(0, 3), (x, what) -> x.about(what))
        );
    }
}
