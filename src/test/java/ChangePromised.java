/** Promises 1 to 19, sentence by sentence. */
final class ChangePromised {
    private static final int NONE = Made.NONE;
    private static final int MIN = Made.MIN;
    private static final int MAX = Made.MAX;

    private ChangePromised() {
    }

    static void tell(Sentences said) {
        aNewObject(said);
        pending(said);
        flush(said);
        setAndClear(said);
        insert(said);
        remove(said);
        split(said);
        shift(said);
        merge(said);
        copy(said);
        swap(said);
        drop(said);
        join(said);
        recut(said);
        walk(said);
        tellX(said);
    }

    private static PatchedColumns sixteenPending() {
        PatchedColumns x = Made.mixed();
        for (int i = 0; i < 14; i++) {
            x.put(i);
        }
        return x;
    }

    private static void aNewObject(Sentences said) {
        said.promise(1).that("No BLOCKS;", due -> {
            PatchedColumns x = new PatchedColumns();
            for (int c = 0; c < 3; c++) {
                for (int what = 0; what <= 6; what++) {
                    due.is("column(" + c + ", " + what + ")", x.column(c, what), 0);
                }
                due.is("block", x.block(c, 0, 0), NONE);
            }
        }).that("THE IMAGE is this.", due -> {
            PatchedColumns x = Made.with(1, 2);
            x.put(3);
            x.tell(9);
            due.is("back", x.back(), 0);
            due.same("back", Twins.seen(x), Twins.seen(new PatchedColumns()));
            due.is("nothing to take back", x.undo(), NONE);
        });
    }

    private static void pending(Sentences said) {
        said.promise(2).that("PUT: how many PLACES are PENDING.", due -> {
            PatchedColumns x = new PatchedColumns();
            for (int i = 1; i <= 16; i++) {
                due.is("put", x.put(MAX), i);
            }
            x.flush(0);
            due.is("put once it is flushed", x.put(1), 1);
        }).that("NONE: there are 16.", due ->
            new Twins(due, ChangePromised::sixteenPending).answers(NONE, "put", x -> x.put(5))
        );
        said.promise(3).that("A GAP: likewise.", due -> {
            PatchedColumns x = new PatchedColumns();
            for (int i = 1; i <= 16; i++) {
                due.is("gap", x.gap(), i);
            }
        }).that("NONE: there are 16.", due ->
            new Twins(due, ChangePromised::sixteenPending).answers(NONE, "gap", x -> x.gap())
        );
        said.promise(4).that("Nothing is PENDING any more", due -> {
            PatchedColumns x = Made.mixed();
            x.forget();
            due.is("about", x.about(0), 0);
            due.is("pending(0)", x.pending(0), Made.ABSENT);
            due.is("flush", x.flush(0), NONE);
            due.is("put", x.put(5), 1);
        }).that("(no STEP):", due -> {
            PatchedColumns x = Made.mixed();
            x.forget();
            due.is("steps", x.about(1), 3);
            x.undo();
            due.is("pending as ahead of the latest step", x.about(0), 2);
            due.is("the first", x.pending(0), 8);
        }).that("how many there were.", due -> {
            due.is("16", sixteenPending().forget(), 16);
            due.is("2", Made.mixed().forget(), 2);
            new Twins(due, Made::full).answers(0, "forget none", x -> x.forget());
        });
    }

    private static PatchedColumns fullAndPending() {
        PatchedColumns x = Made.full();
        x.put(1);
        return x;
    }

    private static PatchedColumns onesAndPending() {
        PatchedColumns x = Made.ones(24);
        x.put(1);
        return x;
    }

    private static PatchedColumns sixteenBehind(int places) {
        PatchedColumns x = Made.alike(places, 3);
        for (int i = 0; i < 16; i++) {
            x.put(4);
        }
        return x;
    }

    private static void flush(Sentences said) {
        said.promise(5).that("FLUSHED: BITS of the BLOCK.", due -> {
            PatchedColumns x = Made.with(1, 2);
            x.put(5);
            x.gap();
            due.is("flush", x.flush(0), 51);
            due.is("a step", x.about(1), 2);
        }).that("NONE: there is no PENDING,", due ->
            new Twins(due, Made::full).answers(NONE, "flush", x -> x.flush(0))
                    .answers(NONE, "flush", x -> x.flush(1))
        ).that("no such COLUMN,", due ->
            new Twins(due, Made::mixed).answersEach(NONE, "flush", Made.NO_COLUMNS, (x, c) -> x.flush(c))
        ).that("no room in it.", due -> {
            new Twins(due, ChangePromised::fullAndPending).answers(NONE, "places", x -> x.flush(0));
            new Twins(due, ChangePromised::onesAndPending).answers(NONE, "blocks", x -> x.flush(0));
            PatchedColumns x = fullAndPending();
            due.is("another one has room", x.flush(1), 49);
            x = Made.full();
            x.remove(0, 0);
            x.put(1);
            due.is("room for just one place", x.flush(0), 49);
            x = Made.ones(23);
            x.put(1);
            due.is("room for just one block", x.flush(0), 49);
            new Twins(due, () -> sixteenBehind(113)).answers(NONE, "113 and 16", y -> y.flush(0));
            due.is("112 and 16", sixteenBehind(112).flush(0), 49);
        });
    }

    private static void setAndClear(Sentences said) {
        said.promise(6).that("SET: BITS of the BLOCK then.", due -> {
            PatchedColumns x = Made.mixed();
            due.is("the first place", x.set(0, 0, 8), 51);
            due.is("the last place", x.set(0, 4, 8), 49);
            due.is("steps", x.about(1), 5);
        }).that("NONE: there is no such PLACE.", due ->
            new Twins(due, Made::mixed)
                    .answersEach(NONE, "set(0, n, 1)", Made.outside(0, 4), (x, n) -> x.set(0, n, 1))
                    .answers(NONE, "set(2, 0, 1)", x -> x.set(2, 0, 1))
                    .answersEach(NONE, "set(c, 0, 1)", Made.NO_COLUMNS, (x, c) -> x.set(c, 0, 1))
        );
        said.promise(7).that("CLEARED: BITS of the BLOCK then.", due -> {
            PatchedColumns x = Made.mixed();
            due.is("the first place", x.clear(0, 0), 49 + 3 + 1);
            due.is("the last place, which is empty", x.clear(0, 4), 51);
            due.is("the last value of its block", x.clear(0, 3), 51);
            due.is("steps", x.about(1), 6);
        }).that("NONE: there is no such PLACE.", due ->
            new Twins(due, Made::mixed)
                    .answersEach(NONE, "clear(0, n)", Made.outside(0, 4), (x, n) -> x.clear(0, n))
                    .answers(NONE, "clear(2, 0)", x -> x.clear(2, 0))
                    .answersEach(NONE, "clear(c, 0)", Made.NO_COLUMNS, (x, c) -> x.clear(c, 0))
        );
    }

    private static void insert(Sentences said) {
        said.promise(8).that("INSERTED: BITS of the COLUMN then.", due -> {
            PatchedColumns x = Made.mixed();
            // 5 5 7 6 by width 2 (57), or by form 1: 0, 4, 1 by width 3 (58).
            due.is("at 0", x.insert(0, 0, 5), 57 + 51);
            due.is("at the end", x.insert(0, 6, 8), 57 + 52);
            due.is("steps", x.about(1), 5);
        }).that("NONE: there is no such PLACE (0 .. PLACES;", due ->
            new Twins(due, Made::mixed)
                    .answersEach(NONE, "insert(0, n, 1)", Made.outside(0, 5), (x, n) -> x.insert(0, n, 1))
                    .answersEach(NONE, "insert(c, 0, 1)", Made.NO_COLUMNS, (x, c) -> x.insert(c, 0, 1))
        ).that("no BLOCK),", due ->
            new Twins(due, Made::mixed).answers(NONE, "insert(2, 0, 1)", x -> x.insert(2, 0, 1))
        ).that("no room.", due -> {
            new Twins(due, Made::full).answersEach(NONE, "insert(0, n, 1)", new int[] {0, 64, 127, 128},
                    (x, n) -> x.insert(0, n, 1));
        });
    }

    private static void remove(Sentences said) {
        said.promise(9).that("REMOVED: BITS of the COLUMN then.", due -> {
            PatchedColumns x = Made.mixed();
            due.is("the last", x.remove(0, 4), 55 + 49);
            due.is("a block", x.remove(0, 3), 55);
            due.is("the first", x.remove(0, 0), 50);
            x.remove(0, 0);
            due.is("the last of all", x.remove(0, 0), 0);
            due.is("steps", x.about(1), 8);
        }).that("NONE: there is no such PLACE.", due ->
            new Twins(due, Made::mixed)
                    .answersEach(NONE, "remove(0, n)", Made.outside(0, 4), (x, n) -> x.remove(0, n))
                    .answers(NONE, "remove(2, 0)", x -> x.remove(2, 0))
                    .answersEach(NONE, "remove(c, 0)", Made.NO_COLUMNS, (x, c) -> x.remove(c, 0))
        );
    }

    private static PatchedColumns twoBehindOnes() {
        PatchedColumns x = Made.ones(23);
        Made.block(x, 0, 4, 5);
        return x;
    }

    private static void split(Sentences said) {
        said.promise(10).that("SPLIT: BITS of both.", due -> {
            PatchedColumns x = Made.mixed();
            due.is("5 and 7 6", x.split(0, 0, 1), 49 + 50);
            due.is("7 and 6", x.split(0, 1, 1), 49 + 49);
            due.is("8 and a gap", x.split(0, 3, 1), 49 + 50);
            due.is("steps", x.about(1), 6);
        }).that("NONE for others,", due ->
            new Twins(due, Made::mixed)
                    .answersEach(NONE, "split(0, 0, n)", Made.outside(1, 2), (x, n) -> x.split(0, 0, n))
                    .answersEach(NONE, "split(0, b, 1)", Made.outside(0, 1), (x, b) -> x.split(0, b, 1))
                    .answers(NONE, "split(2, 0, 1)", x -> x.split(2, 0, 1))
                    .answersEach(NONE, "split(c, 0, 1)", Made.NO_COLUMNS, (x, c) -> x.split(c, 0, 1))
        ).that("and with 24 BLOCKS.", due -> {
            new Twins(due, ChangePromised::twoBehindOnes).answers(NONE, "split", x -> x.split(0, 23, 1));
            PatchedColumns x = twoBehindOnes();
            x.drop(0, 0);
            due.is("with 23", x.split(0, 22, 1), 98);
            due.is("blocks", x.column(0, 0), 24);
        });
    }

    private static void shift(Sentences said) {
        said.promise(11).that("SHIFTED: BITS of the COLUMN then.", due -> {
            PatchedColumns x = Made.mixed();
            due.is("by 9", x.shift(0, 9), 55 + 51);
            due.is("without blocks", x.shift(2, 9), 0);
            // 5 7 6 becomes MAX - 1, MIN, MAX: by form 1 2 * 3 bits, which form 0 had before.
            due.is("round", x.shift(0, MAX - 1 - 14), 55 + 51);
            due.is("by form 1", x.block(0, 0, 2), 1);
            due.is("steps", x.about(1), 6);
        }).that("NONE: no such COLUMN.", due ->
            new Twins(due, Made::mixed).answersEach(NONE, "shift", Made.NO_COLUMNS, (x, c) -> x.shift(c, 1))
        );
    }

    private static void merge(Sentences said) {
        said.promise(12).that("MERGED: PLACES.", due -> {
            PatchedColumns x = Made.mixed();
            due.is("merge", x.merge(1, 1, 0), 4);
            due.is("of none", x.merge(2, 2, 1), 0);
            due.is("steps", x.about(1), 5);
        }).that("NONE: one isn't SORTED,", due ->
            new Twins(due, Made::mixed).answers(NONE, "the first", x -> x.merge(0, 1, 2))
                    .answers(NONE, "the second", x -> x.merge(1, 0, 2))
                    .answers(NONE, "both", x -> x.merge(0, 0, 2))
        ).that("there would be more than 128,", due -> {
            new Twins(due, Made::full).answers(NONE, "itself", x -> x.merge(0, 0, 1));
            PatchedColumns x = Made.full();
            due.is("just 128", x.merge(0, 1, 1), 128);
            new Twins(due, ChangePromised::fullAndOneMore).answers(NONE, "129", y -> y.merge(0, 1, 2));
        }).that("and for others.", due ->
            new Twins(due, Made::mixed)
                    .answersEach(NONE, "merge(c, 1, 1)", Made.NO_COLUMNS, (x, c) -> x.merge(c, 1, 1))
                    .answersEach(NONE, "merge(1, c, 1)", Made.NO_COLUMNS, (x, c) -> x.merge(1, c, 1))
                    .answersEach(NONE, "merge(1, 1, c)", Made.NO_COLUMNS, (x, c) -> x.merge(1, 1, c))
        );
    }

    private static PatchedColumns fullAndOneMore() {
        PatchedColumns x = Made.full();
        Made.block(x, 1, 50);
        return x;
    }

    private static void copy(Sentences said) {
        said.promise(13).that("COPIED: how many BLOCKS came.", due -> {
            PatchedColumns x = Made.full();
            due.is("1", x.copy(0, 127, 128, 1), 1);
            due.is("16", x.copy(0, 0, 16, 1), 1);
            due.is("17", x.copy(0, 0, 17, 1), 2);
            due.is("all", x.copy(0, 0, 128, 2), 8);
            due.is("steps", x.about(1), 12);
        }).that("NONE for others (0 .. PLACES, from below to),", due ->
            new Twins(due, Made::mixed)
                    .answersEach(NONE, "copy(0, n, 5, 2)", Made.outside(0, 4), (x, n) -> x.copy(0, n, 5, 2))
                    .answersEach(NONE, "copy(0, 0, n, 2)", Made.outside(1, 5), (x, n) -> x.copy(0, 0, n, 2))
                    .answers(NONE, "copy(0, 3, 3, 2)", x -> x.copy(0, 3, 3, 2))
                    .answers(NONE, "copy(0, 3, 2, 2)", x -> x.copy(0, 3, 2, 2))
                    .answers(NONE, "copy(2, 0, 0, 0)", x -> x.copy(2, 0, 0, 0))
                    .answersEach(NONE, "copy(c, 0, 1, 0)", Made.NO_COLUMNS, (x, c) -> x.copy(c, 0, 1, 0))
                    .answersEach(NONE, "copy(0, 0, 1, c)", Made.NO_COLUMNS, (x, c) -> x.copy(0, 0, 1, c))
        ).that("and without room.", due -> {
            new Twins(due, Made::full).answers(NONE, "a 129th place", x -> x.copy(0, 5, 6, 0));
            new Twins(due, () -> Made.ones(24)).answers(NONE, "a 25th block", x -> x.copy(0, 5, 6, 0));
        });
    }

    private static void swap(Sentences said) {
        said.promise(14).that("SWAPPED: two unlike COLUMNS have each other's BLOCKS: true.", due -> {
            PatchedColumns x = Made.mixed();
            String zero = Twins.words(x, 0);
            String one = Twins.words(x, 1);
            due.yes("swap", x.swap(0, 1));
            due.same("column 0", Twins.words(x, 0), one);
            due.same("column 1", Twins.words(x, 1), zero);
            due.yes("with one that has none", x.swap(2, 0));
            due.same("column 2", Twins.words(x, 2), one);
            due.is("column 0", x.column(0, 0), 0);
            due.is("steps", x.about(1), 5);
            x = Made.wasted();
            due.yes("swap", x.swap(0, 2));
            due.is("as they are told", x.column(2, 5), 11);
            due.yes("swap back, the other way", x.swap(0, 2));
            due.is("as they are told yet", x.column(0, 5), 11);
            x = new PatchedColumns();
            due.yes("swap two without blocks", x.swap(1, 2));
            due.is("a step", x.about(1), 1);
        }).that("False for others.", due ->
            new Twins(due, Made::mixed)
                    .answersEach(0, "swap(c, 0)", Made.NO_COLUMNS, (x, c) -> x.swap(c, 0) ? 1 : 0)
                    .answersEach(0, "swap(0, c)", Made.NO_COLUMNS, (x, c) -> x.swap(0, c) ? 1 : 0)
                    .answersEach(0, "swap(c, c)", Made.NO_COLUMNS, (x, c) -> x.swap(c, c) ? 1 : 0)
                    .answersEach(0, "like ones", new int[] {0, 1, 2}, (x, c) -> x.swap(c, c) ? 1 : 0)
        );
    }

    private static void drop(Sentences said) {
        said.promise(15).that("DROPPED: how many PLACES it had.", due -> {
            PatchedColumns x = Made.mixed();
            due.is("the last, with a gap", x.drop(0, 1), 2);
            due.is("the first", x.drop(0, 0), 3);
            due.is("blocks", x.column(0, 0), 0);
            due.is("steps", x.about(1), 5);
            due.is("16", Made.full().drop(0, 7), 16);
        }).that("NONE: there is none such.", due ->
            new Twins(due, Made::mixed)
                    .answersEach(NONE, "drop(0, b)", Made.outside(0, 1), (x, b) -> x.drop(0, b))
                    .answers(NONE, "drop(2, 0)", x -> x.drop(2, 0))
                    .answersEach(NONE, "drop(c, 0)", Made.NO_COLUMNS, (x, c) -> x.drop(c, 0))
        );
    }

    private static void join(Sentences said) {
        said.promise(16).that("JOINED: how many BLOCKS there are fewer.", due -> {
            PatchedColumns x = Made.ones(16);
            due.is("15", x.join(0), 15);
            due.is("none", x.join(0), 0);
            due.is("without blocks", x.join(1), 0);
            due.is("steps", x.about(1), 19);
            // 24 in two: the first 16 are one, the next 8 another.
            due.is("22", Made.ones(24).join(0), 22);
        }).that("NONE: no such COLUMN.", due ->
            new Twins(due, Made::mixed).answersEach(NONE, "join", Made.NO_COLUMNS, (x, c) -> x.join(c))
        );
    }

    private static void recut(Sentences said) {
        said.promise(17).that("CUT ANEW: BITS of all then.", due -> {
            PatchedColumns x = Made.ones(24);
            // 8 and 16 of them by form 1 and width 2.
            int bits = x.recut(0);
            due.is("recut", bits, (49 + 2 * 7) + (49 + 2 * 15));
            due.is("bits", x.column(0, 3), bits);
            due.is("again", x.recut(0), bits);
            due.is("steps", x.about(1), 20);
        }).that("NONE: no such COLUMN,", due ->
            new Twins(due, Made::mixed).answersEach(NONE, "recut", Made.NO_COLUMNS, (x, c) -> x.recut(c))
        ).that("or it has no BLOCKS.", due ->
            new Twins(due, Made::mixed).answers(NONE, "recut", x -> x.recut(2))
        );
    }

    private static void walk(Sentences said) {
        said.promise(18).that("WALKED: how many BLOCKS came.", due -> {
            PatchedColumns x = Made.mixed();
            due.is("1", x.walk(2, 5, 5, 1), 1);
            due.is("16", x.walk(2, 5, 5, 16), 1);
            due.is("17", x.walk(2, 5, 5, 17), 2);
            due.is("48", x.walk(2, 5, 5, 48), 3);
            due.is("blocks", x.column(2, 0), 7);
            due.is("steps", x.about(1), 7);
        }).that("NONE for others,", due ->
            new Twins(due, Made::mixed)
                    .answersEach(NONE, "walk(c, 0, 0, 1)", Made.NO_COLUMNS, (x, c) -> x.walk(c, 0, 0, 1))
                    .answersEach(NONE, "spread", Made.outside(0, 99999), (x, s) -> x.walk(1, 0, s, 1))
                    .answersEach(NONE, "n", Made.outside(1, 48), (x, n) -> x.walk(1, 0, 5, n))
        ).that("and without room.", due -> {
            new Twins(due, Made::full).answers(NONE, "a 129th place", x -> x.walk(0, 0, 5, 1));
            new Twins(due, () -> Made.ones(24)).answers(NONE, "a 25th block", x -> x.walk(0, 0, 5, 1));
        });
    }

    private static void tellX(Sentences said) {
        said.promise(19).that("X is told (0 .. 29988): true.", due -> {
            PatchedColumns x = new PatchedColumns();
            for (int number : new int[] {0, 1, 29987, 29988}) {
                due.yes("tell " + number, x.tell(number));
                due.is("X", x.about(3), number);
            }
        }).that("It is no STEP.", due -> {
            PatchedColumns x = Made.mixed();
            x.tell(5);
            due.is("steps", x.about(1), 3);
            x.undo();
            due.is("X as ahead of the latest step", x.about(3), 647);
        }).that("False for others.", due ->
            new Twins(due, Made::mixed)
                    .answersEach(0, "tell", Made.outside(0, 29988), (x, number) -> x.tell(number) ? 1 : 0)
        );
    }
}
