/** Promises 27 to 43, and 49: what is told of columns, blocks, places, and of PENDING. */
final class AskSaid {
    private static final int NONE = Made.NONE;
    private static final int MIN = Made.MIN;
    private static final int MAX = Made.MAX;

    private AskSaid() {
    }

    static void tell(Sentences said) {
        column(said);
        block(said);
        likeAndFilled(said);
        empties(said);
        baseAndBits(said);
        bound(said);
        value(said);
        readAndPatched(said);
        part(said);
        pending(said);
        total(said);
        best(said);
        narrow(said);
        folded(said);
    }

    /** 5 7 6 (form 0), 10 20 30 1000000 (form 1, one exception), two gaps, 16 by form 2. */
    private static PatchedColumns four() {
        PatchedColumns x = Made.with(5, 7, 6);
        Made.block(x, 0, 10, 20, 30, 1000000);
        Made.block(x, 0, null, null);
        for (int i = 0; i < 16; i++) {
            x.put(50 - 1000 * i + i % 2);
        }
        x.flush(0);
        return x;
    }

    /** 0 1 0 1 .. with an exception and gaps, by form 0. */
    private static PatchedColumns patchedZero() {
        return Made.with(null, 0, 1, 0, 1, 0, 1, 0, 1, 1000, null, 0);
    }

    private static void column(Sentences said) {
        said.promise(27).that("Of a COLUMN: 0 BLOCKS, 1 PLACES, 2 VALUES, 3 BITS, 4 WORDS, 5 WASTE, 6 EXCEPTIONS.",
                due -> {
            PatchedColumns x = four();
            int[] want = {4, 25, 23, 55 + 95 + 51 + 111, 2 + 3 + 2 + 4, 0, 1};
            for (int what = 0; what < want.length; what++) {
                due.is("column(0, " + what + ")", x.column(0, what), want[what]);
                due.is("without blocks", x.column(1, what), 0);
            }
            due.is("waste", Made.wasted().column(0, 5), 11);
            due.is("bits with waste", Made.wasted().column(0, 3), 59 + 55);
        }).that("NONE for others.", due -> {
            Twins twins = new Twins(due, Made::mixed);
            twins.answersEach(NONE, "column(0, what)", Made.outside(0, 6), (x, what) -> x.column(0, what));
            for (int what = 0; what <= 6; what++) {
                int asked = what;
                twins.answersEach(NONE, "column(c, " + what + ")", Made.NO_COLUMNS, (x, c) -> x.column(c, asked));
            }
        });
    }

    private static void block(Sentences said) {
        said.promise(28).that("Of a BLOCK: 0 PLACES, 1 VALUES, 2 FORM, 3 WIDTH, 4 EXCEPTIONS, 5 BITS, 6 WORDS, "
                + "7 its first PLACE in the COLUMN.", due -> {
            PatchedColumns x = four();
            int[][] want = {
                {3, 3, 0, 2, 0, 55, 2, 0}, {4, 4, 1, 5, 1, 95, 3, 3}, {2, 0, 0, 0, 0, 51, 2, 7},
                {16, 16, 2, 2, 0, 81 + 30, 4, 9},
            };
            for (int b = 0; b < want.length; b++) {
                for (int what = 0; what <= 7; what++) {
                    due.is("block(0, " + b + ", " + what + ")", x.block(0, b, what), want[b][what]);
                }
            }
        }).that("NONE for others.", due -> {
            Twins twins = new Twins(due, Made::mixed);
            twins.answersEach(NONE, "block(0, 0, what)", Made.outside(0, 7), (x, what) -> x.block(0, 0, what));
            for (int what = 0; what <= 7; what++) {
                int asked = what;
                twins.answersEach(NONE, "block(c, 0, " + what + ")", Made.NO_COLUMNS, (x, c) -> x.block(c, 0, asked));
                twins.answersEach(NONE, "block(0, b, " + what + ")", Made.outside(0, 1), (x, b) -> x.block(0, b, asked));
                twins.answers(NONE, "block(2, 0, " + what + ")", x -> x.block(2, 0, asked));
            }
            due.is("the 25th", Made.ones(24).block(0, 24, 0), NONE);
        });
    }

    private static void likeAndFilled(Sentences said) {
        said.promise(29).that("How many BLOCKS of a COLUMN are of a FORM and a WIDTH", due -> {
            PatchedColumns x = four();
            due.is("0, 2", x.like(0, 0, 2), 1);
            due.is("0, 0", x.like(0, 0, 0), 1);
            due.is("1, 5", x.like(0, 1, 5), 1);
            due.is("2, 2", x.like(0, 2, 2), 1);
            due.is("2, 5", x.like(0, 2, 5), 0);
            due.is("2, 32", x.like(0, 2, 32), 0);
            due.is("by width 32", Made.with(0, MIN).like(0, 1, 32), 1);
            due.is("without blocks", x.like(1, 0, 0), 0);
            due.is("24 of them", Made.ones(24).like(0, 0, 0), 24);
        }).that("(each NONE: any).", due -> {
            PatchedColumns x = four();
            due.is("of form 0", x.like(0, 0, NONE), 2);
            due.is("of width 2", x.like(0, NONE, 2), 2);
            due.is("all", x.like(0, NONE, NONE), 4);
            due.is("of none", x.like(1, NONE, NONE), 0);
        }).that("NONE for others.", due ->
            new Twins(due, Made::mixed)
                    .answersEach(NONE, "like(c, -1, -1)", Made.NO_COLUMNS, (x, c) -> x.like(c, -1, -1))
                    .answersEach(NONE, "like(0, form, -1)", Made.outside(-1, 2), (x, form) -> x.like(0, form, -1))
                    .answersEach(NONE, "like(0, -1, width)", Made.outside(-1, 32), (x, width) -> x.like(0, -1, width))
                    .answersEach(NONE, "like(2, form, 0)", Made.outside(-1, 2), (x, form) -> x.like(2, form, 0))
        );
        said.promise(30).that("How many bits of its WORDS a COLUMN's BLOCKS fill up with 0.", due -> {
            due.is("of all", four().filled(0), 9 + 1 + 13 + 17);
            due.is("without blocks", four().filled(1), 0);
            PatchedColumns x = new Bits().head(1, 0, 15, 0, 4).of(0, 15).onTape();
            x.open(0);
            due.is("64 bits", x.filled(0), 0);
            x = new Bits().head(1, 0, 16, 0, 4).of(0, 16).fill().onTape();
            x.open(0);
            due.is("65 bits", x.filled(0), 31);
        }).that("NONE for others.", due ->
            new Twins(due, Made::mixed).answersEach(NONE, "filled", Made.NO_COLUMNS, (x, c) -> x.filled(c))
        );
    }

    private static void empties(Sentences said) {
        said.promise(31).that("How many PLACES from one on to another one (this not) are EMPTY.", due -> {
            PatchedColumns x = Made.with(null, 1, null);
            Made.block(x, 0, null, 5);
            due.is("all", x.empties(0, 0, 5), 3);
            due.is("from one on", x.empties(0, 2, 5), 2);
            due.is("this not", x.empties(0, 0, 2), 1);
            due.is("one", x.empties(0, 3, 4), 1);
            due.is("a value", x.empties(0, 1, 2), 0);
            due.is("none at the first", x.empties(0, 0, 0), 0);
            due.is("none at the end", x.empties(0, 5, 5), 0);
            due.is("without blocks", x.empties(1, 0, 0), 0);
        }).that("NONE for others (0 .. PLACES; from no greater than to).", due ->
            new Twins(due, Made::mixed)
                    .answersEach(NONE, "empties(c, 0, 0)", Made.NO_COLUMNS, (x, c) -> x.empties(c, 0, 0))
                    .answersEach(NONE, "empties(0, n, 5)", Made.outside(0, 5), (x, n) -> x.empties(0, n, 5))
                    .answersEach(NONE, "empties(0, 0, n)", Made.outside(0, 5), (x, n) -> x.empties(0, 0, n))
                    .answers(NONE, "empties(0, 3, 2)", x -> x.empties(0, 3, 2))
                    .answers(NONE, "empties(2, 0, 1)", x -> x.empties(2, 0, 1))
                    .answers(NONE, "empties(0, 6, 6)", x -> x.empties(0, 6, 6))
        );
    }

    private static void baseAndBits(Sentences said) {
        said.promise(32).that("BASE (what 0),", due -> {
            PatchedColumns x = four();
            int[] want = {5, 10, 0, 50};
            for (int b = 0; b < 4; b++) {
                due.is("base " + b, x.base(0, b, 0), want[b]);
            }
            due.is("MIN", Made.with(MIN).base(0, 0, 0), MIN);
        }).that("STEP (1; 0 of FORMS 0, 1) of a BLOCK.", due -> {
            PatchedColumns x = four();
            int[] want = {0, 0, 0, -1001};
            for (int b = 0; b < 4; b++) {
                due.is("step " + b, x.base(0, b, 1), want[b]);
            }
            // Its first difference is far below the others then: an exception by form 1.
            x.set(0, 9, 1000000);
            due.is("form 1 then", x.block(0, 3, 2), 1);
            due.is("0 once it is of form 1", x.base(0, 3, 1), 0);
            x = four();
            x.copy(0, 0, 3, 0);
            due.is("0 behind one of form 2", x.base(0, 4, 1), 0);
            x.drop(0, 3);
            due.is("0 where one of form 2 was", x.base(0, 3, 1), 0);
        }).that("0 for others.", due ->
            new Twins(due, AskSaid::four)
                    .answersEach(0, "base(0, 3, what)", Made.outside(0, 1), (x, what) -> x.base(0, 3, what))
                    .answersEach(0, "base(0, b, 0)", Made.outside(0, 3), (x, b) -> x.base(0, b, 0))
                    .answersEach(0, "base(0, b, 1)", Made.outside(0, 3), (x, b) -> x.base(0, b, 1))
                    .answersEach(0, "base(c, 0, 0)", Made.NO_COLUMNS, (x, c) -> x.base(c, 0, 0))
                    .answers(0, "base(1, 0, 0)", x -> x.base(1, 0, 0))
        );
        said.promise(33).that("The i-th WORD of a BLOCK.", due -> {
            PatchedColumns x = four();
            Bits bits = new Bits().head(4, 1, 5, 1, 10).parts(5, 20, 20, 1999940 & 31).of(2, 4).of(1999940 >> 5, 27);
            for (int i = 0; i < 3; i++) {
                due.is("word " + i, x.bits(0, 1, i), bits.word(i));
            }
        }).that("0 for others.", due ->
            new Twins(due, () -> Made.with(-1, -1))
                    .answersEach(0, "bits(0, 0, i)", Made.outside(0, 1), (x, i) -> x.bits(0, 0, i))
                    .answersEach(0, "bits(0, b, 0)", Made.outside(0, 0), (x, b) -> x.bits(0, b, 0))
                    .answersEach(0, "bits(c, 0, 0)", Made.NO_COLUMNS, (x, c) -> x.bits(c, 0, 0))
                    .answers(0, "bits(1, 0, 0)", x -> x.bits(1, 0, 0))
        );
    }

    private static void bound(Sentences said) {
        said.promise(34).that("BOUNDS of a BLOCK: the low one (high false), the high one (true).", due -> {
            PatchedColumns x = Made.with(5, 7, 6);
            due.is("low", x.bound(0, 0, false), 5);
            due.is("high", x.bound(0, 0, true), 8);
        }).that("-4294967296: it has none,", due ->
            new Twins(due, AskSaid::four)
                    .answersEach(Made.ABSENT, "low", new int[] {1, 2, 3}, (x, b) -> x.bound(0, b, false))
                    .answersEach(Made.ABSENT, "high", new int[] {1, 2, 3}, (x, b) -> x.bound(0, b, true))
        ).that("and for others.", due ->
            new Twins(due, Made::mixed)
                    .answersEach(Made.ABSENT, "bound(0, b, false)", Made.outside(0, 1), (x, b) -> x.bound(0, b, false))
                    .answersEach(Made.ABSENT, "bound(0, b, true)", Made.outside(0, 1), (x, b) -> x.bound(0, b, true))
                    .answersEach(Made.ABSENT, "bound(c, 0, false)", Made.NO_COLUMNS, (x, c) -> x.bound(c, 0, false))
                    .answersEach(Made.ABSENT, "bound(c, 0, true)", Made.NO_COLUMNS, (x, c) -> x.bound(c, 0, true))
                    .answers(Made.ABSENT, "bound(2, 0, true)", x -> x.bound(2, 0, true))
        );
    }

    private static void value(Sentences said) {
        said.promise(35).that("The VALUE of a PLACE.", due -> {
            PatchedColumns x = four();
            Made.block(x, 1, MIN, MAX);
            long[] want = {5, 7, 6, 10, 20, 30, 1000000};
            for (int i = 0; i < want.length; i++) {
                due.is("value(0, " + i + ")", x.value(0, i), want[i]);
            }
            for (int i = 0; i < 16; i++) {
                due.is("by form 2", x.value(0, 9 + i), 50 - 1000 * i + i % 2);
            }
            due.is("MIN", x.value(1, 0), MIN);
            due.is("MAX", x.value(1, 1), MAX);
        }).that("4294967296: EMPTY.", due -> {
            PatchedColumns x = four();
            due.is("7", x.value(0, 7), 4294967296L);
            due.is("8", x.value(0, 8), 4294967296L);
        }).that("-4294967296: there is no such PLACE.", due ->
            new Twins(due, Made::mixed)
                    .answersEach(-4294967296L, "value(0, n)", Made.outside(0, 4), (x, n) -> x.value(0, n))
                    .answersEach(-4294967296L, "value(c, 0)", Made.NO_COLUMNS, (x, c) -> x.value(c, 0))
                    .answers(-4294967296L, "value(2, 0)", x -> x.value(2, 0))
        );
        said.promise(36).that("The BLOCK of a PLACE.", due -> {
            PatchedColumns x = four();
            for (int i = 0; i < 25; i++) {
                due.is("blockOf(0, " + i + ")", x.blockOf(0, i), i < 3 ? 0 : i < 7 ? 1 : i < 9 ? 2 : 3);
            }
        }).that("NONE for others.", due ->
            new Twins(due, Made::mixed)
                    .answersEach(NONE, "blockOf(0, n)", Made.outside(0, 4), (x, n) -> x.blockOf(0, n))
                    .answersEach(NONE, "blockOf(c, 0)", Made.NO_COLUMNS, (x, c) -> x.blockOf(c, 0))
                    .answers(NONE, "blockOf(2, 0)", x -> x.blockOf(2, 0))
        );
    }

    private static void readAndPatched(Sentences said) {
        said.promise(37).that("READ.", due -> {
            PatchedColumns x = four();
            int[] want = {1, 1, 1, 0, 1, 2, 3, 0, 0, 0, 1, 2};
            for (int i = 0; i < want.length; i++) {
                due.is("read(0, " + i + ")", x.read(0, i), want[i]);
            }
            due.is("the last", x.read(0, 24), 15);
        }).that("NONE for others.", due ->
            new Twins(due, Made::mixed)
                    .answersEach(NONE, "read(0, n)", Made.outside(0, 4), (x, n) -> x.read(0, n))
                    .answersEach(NONE, "read(c, 0)", Made.NO_COLUMNS, (x, c) -> x.read(c, 0))
                    .answers(NONE, "read(2, 0)", x -> x.read(2, 0))
        );
        said.promise(38).that("Whether the PART that tells a PLACE (of FORM 1, 2 its DIFFERENCE) is an EXCEPTION.",
                due -> {
            PatchedColumns x = patchedZero();
            due.is("form", x.block(0, 0, 2), 0);
            for (int i = 0; i < 12; i++) {
                due.is("form 0, place " + i, x.patched(0, i) ? 1 : 0, i == 9 ? 1 : 0);
            }
            x = four();
            for (int i = 0; i < 25; i++) {
                due.is("place " + i, x.patched(0, i) ? 1 : 0, i == 6 ? 1 : 0);
            }
            x = new Bits().head(3, 2, 7, 1, 10).of(-4, 32).parts(7, 9, 1).of(0, 4).of(1, 25).fill().onTape();
            x.open(0);
            due.no("form 2, the first", x.patched(0, 0));
            due.yes("form 2, the second", x.patched(0, 1));
            due.no("form 2, the third", x.patched(0, 2));
        }).that("False for others,", due ->
            new Twins(due, AskSaid::patchedZero)
                    .answersEach(0, "patched(0, n)", Made.outside(0, 11), (x, n) -> x.patched(0, n) ? 1 : 0)
                    .answersEach(0, "patched(c, 9)", Made.NO_COLUMNS, (x, c) -> x.patched(c, 9) ? 1 : 0)
                    .answers(0, "patched(1, 0)", x -> x.patched(1, 0) ? 1 : 0)
        ).that("of EMPTY ones,", due -> {
            PatchedColumns x = new Bits().masked(3, 5, 0, 0, 0, 7).fill().onTape();
            x.open(0);
            for (int i = 0; i < 3; i += 2) {
                due.no("patched", x.patched(0, i));
            }
            // The gap stands between values whose parts are exceptions.
            x = new Bits().masked(4, 4, 1, 0, 2, 7).of(0, 4).of(9, 32).of(1, 4).of(9, 32).fill().onTape();
            due.is("open", x.open(0), 4);
            due.yes("ahead of it", x.patched(0, 1));
            due.no("a gap", x.patched(0, 2));
            due.yes("behind it", x.patched(0, 3));
        }).that("and of the first VALUE by FORM 1, 2.", due -> {
            PatchedColumns x = new Bits().masked(3, 1, 1, 0, 1, 7).of(0, 4).of(9, 32).fill().onTape();
            x.open(0);
            due.no("form 1", x.patched(0, 1));
            due.yes("its second", x.patched(0, 2));
            x = new Bits().head(2, 2, 0, 1, 7).of(5, 32).of(0, 4).of(9, 32).fill().onTape();
            x.open(0);
            due.no("form 2", x.patched(0, 0));
            due.yes("its second", x.patched(0, 1));
            x = new Bits().head(2, 0, 0, 1, 7).of(0, 4).of(9, 32).fill().onTape();
            x.open(0);
            due.yes("by form 0 it may be", x.patched(0, 0));
        });
    }

    private static void part(Sentences said) {
        said.promise(39).that("The PART of a number in a BLOCK, as it is told (without sign).", due -> {
            PatchedColumns x = four();
            long[][] want = {{0, 2, 1}, {20, 20, 1999940}, {}, {2, 0, 2, 0, 2, 0, 2, 0, 2, 0, 2, 0, 2, 0, 2}};
            for (int b = 0; b < want.length; b++) {
                for (int i = 0; i < want[b].length; i++) {
                    due.is("part(0, " + b + ", " + i + ")", x.part(0, b, i), want[b][i]);
                }
                due.is("no more", x.part(0, b, want[b].length), NONE);
            }
            due.is("the greatest", Made.with(0, MIN).part(0, 0, 0), 4294967295L);
        }).that("NONE: there is none such.", due ->
            new Twins(due, Made::mixed)
                    .answersEach(NONE, "part(0, 0, i)", Made.outside(0, 2), (x, i) -> x.part(0, 0, i))
                    .answersEach(NONE, "part(0, b, 0)", Made.outside(0, 1), (x, b) -> x.part(0, b, 0))
                    .answersEach(NONE, "part(c, 0, 0)", Made.NO_COLUMNS, (x, c) -> x.part(c, 0, 0))
                    .answers(NONE, "a gap has none", x -> x.part(0, 1, 1))
                    .answers(NONE, "part(2, 0, 0)", x -> x.part(2, 0, 0))
        );
    }

    private static void pending(Sentences said) {
        said.promise(40).that("The i-th PLACE of PENDING, as value().", due -> {
            PatchedColumns x = Made.mixed();
            due.is("0", x.pending(0), 3);
            due.is("1", x.pending(1), Made.EMPTY);
            new Twins(due, Made::mixed)
                    .answersEach(Made.ABSENT, "pending", Made.outside(0, 1), (y, i) -> y.pending(i));
            due.is("of none", Made.full().pending(0), Made.ABSENT);
            x = new PatchedColumns();
            for (int i = 0; i < 16; i++) {
                x.put(MIN + i);
            }
            due.is("15", x.pending(15), MIN + 15);
            due.is("16", x.pending(16), Made.ABSENT);
        });
    }

    private static void total(Sentences said) {
        said.promise(41).that("BITS of PENDING by FORM and WIDTH.", due -> {
            PatchedColumns x = new PatchedColumns();
            x.gap();
            due.is("a gap", x.total(0, 0), 50);
            due.is("a gap, by 32", x.total(0, 32), 50);
            x.put(100);
            x.put(103);
            x.put(101);
            due.is("form 0, w 2", x.total(0, 2), 53 + 6);
            due.is("form 0, w 1", x.total(0, 1), 53 + 3 + 35);
            due.is("form 1, w 3", x.total(1, 3), 53 + 6);
            due.is("form 1, w 2", x.total(1, 2), 53 + 4 + 34);
            due.is("form 2, w 3", x.total(2, 3), 85 + 6);
            due.is("form 2, w 32", x.total(2, 32), 85 + 64);
        }).that("NONE: it can't be,", due -> {
            PatchedColumns x = new PatchedColumns();
            x.put(5);
            x.gap();
            due.is("form 1 of one value", x.total(1, 5), NONE);
            due.is("form 2 of one value", x.total(2, 5), NONE);
            due.is("form 0 of one value", x.total(0, 5), 51 + 5);
        }).that("there is no PENDING,", due ->
            new Twins(due, Made::full).answersEach(NONE, "total", new int[] {0, 1, 2}, (x, form) -> x.total(form, 0))
        ).that("and for others.", due ->
            new Twins(due, AskSaid::twoPending)
                    .answersEach(NONE, "total(form, 0)", Made.outside(0, 2), (x, form) -> x.total(form, 0))
                    .answersEach(NONE, "total(0, width)", Made.outside(0, 32), (x, width) -> x.total(0, width))
        );
    }

    private static PatchedColumns twoPending() {
        PatchedColumns x = Made.with(9, 9);
        x.put(4);
        x.put(5);
        return x;
    }

    private static void best(Sentences said) {
        said.promise(42).that("BEST of PENDING: 0 FORM, 1 WIDTH, 2 BITS, 3 EXCEPTIONS.", due -> {
            PatchedColumns x = new PatchedColumns();
            for (int i = 0; i < 4; i++) {
                x.put(i == 3 ? 1000000 : i * 10);
            }
            int[] want = {1, 5, 95, 1};
            for (int what = 0; what < 4; what++) {
                due.is("best(" + what + ")", x.best(what), want[what]);
            }
            x.forget();
            x.gap();
            int[] gap = {0, 0, 50, 0};
            for (int what = 0; what < 4; what++) {
                due.is("of a gap, best(" + what + ")", x.best(what), gap[what]);
            }
        }).that("NONE: there is no PENDING,", due ->
            new Twins(due, Made::full).answersEach(NONE, "best", new int[] {0, 1, 2, 3}, (x, what) -> x.best(what))
        ).that("and for others.", due ->
            new Twins(due, Made::mixed).answersEach(NONE, "best", Made.outside(0, 3), (x, what) -> x.best(what))
        );
    }

    private static void narrow(Sentences said) {
        said.promise(43).that("How many PARTS of PENDING by a FORM have just so many bits (0 .. 32).", due -> {
            PatchedColumns x = new PatchedColumns();
            x.gap();
            x.put(MIN);
            x.put(MAX);
            x.put(MIN + 5);
            x.put(MIN + 5);
            // Form 0: 0, 4294967295, 5, 5. Form 1: -1, 6, 0. Form 2, by a step of -1: 0, 7, 1.
            int[][] want = {{0, 0, 1}, {0, 3, 2}, {0, 32, 1}, {0, 31, 0}, {1, 0, 1}, {1, 1, 1}, {1, 4, 1},
                {1, 32, 0}, {2, 0, 1}, {2, 1, 1}, {2, 3, 1}, {2, 2, 0}};
            for (int[] one : want) {
                due.is("narrow(" + one[0] + ", " + one[1] + ")", x.narrow(one[0], one[1]), one[2]);
            }
            x.forget();
            x.gap();
            due.is("a gap has none", x.narrow(0, 0), 0);
        }).that("NONE: that FORM can't be,", due -> {
            PatchedColumns x = new PatchedColumns();
            x.put(5);
            x.gap();
            due.is("form 1 of one value", x.narrow(1, 0), NONE);
            due.is("form 2 of one value", x.narrow(2, 0), NONE);
            due.is("form 0 of one value", x.narrow(0, 0), 1);
        }).that("there is no PENDING,", due ->
            new Twins(due, Made::full).answersEach(NONE, "narrow", new int[] {0, 1, 2}, (x, form) -> x.narrow(form, 0))
        ).that("and for others.", due ->
            new Twins(due, AskSaid::twoPending)
                    .answersEach(NONE, "narrow(form, 0)", Made.outside(0, 2), (x, form) -> x.narrow(form, 0))
                    .answersEach(NONE, "narrow(0, bits)", Made.outside(0, 32), (x, bits) -> x.narrow(0, bits))
        );
    }

    private static void folded(Sentences said) {
        said.promise(49).that("A DIFFERENCE FOLDED (without sign).", due -> {
            int[] asked = {0, 1, -1, 2, -2, 1 << 30, -(1 << 30), (1 << 30) - 1, MAX, -MAX, MIN};
            for (int one : asked) {
                long want = one >= 0 ? 2L * one : -2L * one - 1;
                new Twins(due, Made::mixed).answers(want, "folded(" + one + ")", x -> x.folded(one));
            }
        });
    }
}
