/** Promises 1 to 5, 40 to 43, 49: a new object, what is pending, and how it would be told. */
final class PendingTest {
    private static final Due due = new Due();

    public static void main(String[] args) {
        aNewObject();
        putGapForget();
        flush();
        pending();
        total();
        totalOfSixteenExceptions();
        best();
        bestOfLikeOnes();
        narrow();
        folded();
        due.end("PendingTest");
    }

    private static void aNewObject() {
        PatchedColumns x = new PatchedColumns();
        for (int c = 0; c < 3; c++) {
            for (int what = 0; what <= 6; what++) {
                due.is("new column " + c + ", " + what, x.column(c, what), 0);
            }
        }
        due.is("new: pending", x.about(0), 0);
        due.is("new: steps", x.about(1), 0);
        due.is("new: tape", x.about(2), 0);
        due.is("new: X", x.about(3), 647);
        Made.block(x, 0, 1, 2, 3);
        x.put(9);
        x.tell(5);
        due.is("back to the new object", x.back(), 0);
        due.is("back: pending", x.about(0), 0);
        due.is("back: steps", x.about(1), 0);
        due.is("back: X", x.about(3), 647);
        due.is("back: blocks", x.column(0, 0), 0);
    }

    private static void putGapForget() {
        PatchedColumns x = new PatchedColumns();
        due.is("forget nothing", x.forget(), 0);
        for (int i = 1; i <= 16; i++) {
            due.is("put " + i, i % 2 == 0 ? x.gap() : x.put(-i), i);
        }
        due.is("put the 17th", x.put(1), Made.NONE);
        due.is("gap the 17th", x.gap(), Made.NONE);
        due.is("it stays", x.about(0), 16);
        due.is("forget 16", x.forget(), 16);
        due.is("forget again", x.forget(), 0);
        due.is("no step", x.about(1), 0);
        due.is("gap then", x.gap(), 1);
        due.is("put then", x.put(Made.MIN), 2);
    }

    private static void flush() {
        PatchedColumns x = new PatchedColumns();
        due.is("flush nothing", x.flush(0), Made.NONE);
        x.put(5);
        for (int c : Made.NO_COLUMNS) {
            due.is("flush into " + c, x.flush(c), Made.NONE);
        }
        due.is("it is pending yet", x.about(0), 1);
        due.is("no step", x.about(1), 0);
        due.is("flush one", x.flush(2), 49);
        due.is("none pending", x.about(0), 0);
        due.is("a step", x.about(1), 1);
        due.is("its value", x.value(2, 0), 5);
        x = Made.ones(24);
        x.put(1);
        due.is("flush the 25th block", x.flush(0), Made.NONE);
        due.is("flush elsewhere", x.flush(1), 49);
        x = Made.full();
        x.put(1);
        due.is("flush the 129th place", x.flush(0), Made.NONE);
        x.drop(0, 0);
        for (int i = 0; i < 15; i++) {
            x.put(1);
        }
        due.is("flush up to 128 places", x.flush(0), 49);
        due.is("they are 128", x.column(0, 1), 128);
    }

    private static void pending() {
        PatchedColumns x = new PatchedColumns();
        due.is("pending(0) of none", x.pending(0), Made.ABSENT);
        x.put(Made.MAX);
        x.gap();
        x.put(Made.MIN);
        due.is("pending(0)", x.pending(0), Made.MAX);
        due.is("pending(1)", x.pending(1), Made.EMPTY);
        due.is("pending(2)", x.pending(2), Made.MIN);
        due.is("pending(3)", x.pending(3), Made.ABSENT);
        due.is("pending(-1)", x.pending(-1), Made.ABSENT);
        due.is("pending(MIN)", x.pending(Made.MIN), Made.ABSENT);
        due.is("pending(MAX)", x.pending(Made.MAX), Made.ABSENT);
    }

    private static void total() {
        PatchedColumns x = new PatchedColumns();
        due.is("total of none", x.total(0, 0), Made.NONE);
        x.gap();
        due.is("total of a gap", x.total(0, 0), 50);
        due.is("total of a gap, wide", x.total(0, 32), 50);
        due.is("form 1 of a gap", x.total(1, 0), Made.NONE);
        x.put(100);
        due.is("form 1 of one value", x.total(1, 0), Made.NONE);
        due.is("form 2 of one value", x.total(2, 0), Made.NONE);
        due.is("form 0 of one value", x.total(0, 3), 49 + 2 + 3);
        x.put(103);
        x.put(101);
        // Places: a gap and 100, 103, 101. Parts 0 3 1; folded 6, 3; less the step of -2: 5, 0.
        due.is("form 0, w 2", x.total(0, 2), 53 + 6);
        due.is("form 0, w 1", x.total(0, 1), 53 + 3 + 35);
        due.is("form 0, w 0", x.total(0, 0), 53 + 2 * 36);
        due.is("form 1, w 3", x.total(1, 3), 53 + 6);
        due.is("form 1, w 2", x.total(1, 2), 53 + 4 + 34);
        due.is("form 2, w 3", x.total(2, 3), 85 + 6);
        due.is("form 2, w 0", x.total(2, 0), 85 + 36);
        due.is("form -1", x.total(-1, 0), Made.NONE);
        due.is("form 3", x.total(3, 0), Made.NONE);
        due.is("width -1", x.total(0, -1), Made.NONE);
        due.is("width 33", x.total(0, 33), Made.NONE);
        due.is("width 32", x.total(1, 32), 53 + 64);
    }

    private static void totalOfSixteenExceptions() {
        PatchedColumns x = new PatchedColumns();
        for (int i = 0; i < 16; i++) {
            x.put(i == 0 ? Made.MIN : Made.MAX - i);
        }
        // The least value's own part is 0, so that 15 at most are wider than any width.
        due.is("fifteen exceptions", x.total(0, 0), 49 + 15 * 36);
        due.is("fifteen exceptions, w 31", x.total(0, 31), 49 + 16 * 31 + 15 * 5);
        due.is("no exceptions", x.total(0, 32), 49 + 16 * 32);
    }

    private static void best() {
        PatchedColumns x = new PatchedColumns();
        for (int what = -1; what <= 4; what++) {
            due.is("best of none, " + what, x.best(what), Made.NONE);
        }
        for (int i = 0; i < 16; i++) {
            x.put(i * 1000 + (i % 2));
        }
        // Differences 1001, 999, ..: less the step of 999 they are 2, 0, ..: form 2 by width 2.
        due.is("best form", x.best(0), 2);
        due.is("best width", x.best(1), 2);
        due.is("best bits", x.best(2), 81 + 15 * 2);
        due.is("best exceptions", x.best(3), 0);
        due.is("best(4)", x.best(4), Made.NONE);
        due.is("best(-1)", x.best(-1), Made.NONE);
        x.forget();
        for (int i = 0; i < 10; i++) {
            x.put(i == 4 ? 1000000 : i % 4);
        }
        due.is("patched form", x.best(0), 0);
        due.is("patched width", x.best(1), 2);
        due.is("patched bits", x.best(2), 49 + 20 + 34);
        due.is("patched exceptions", x.best(3), 1);
    }

    private static void bestOfLikeOnes() {
        PatchedColumns x = new PatchedColumns();
        x.put(7);
        x.put(7);
        // By forms 0 and 1 it has 49 bits alike.
        due.is("like ones: lower form", x.best(0), 0);
        due.is("like ones: lower width", x.best(1), 0);
        x.forget();
        x.put(0);
        x.put(-1);
        // Form 0: parts 1, 0 by width 1: 51; form 1: folded 1 by width 1: 50.
        due.is("fewer bits by form 1", x.best(0), 1);
        due.is("its bits", x.best(2), 50);
        x.forget();
        x.put(0);
        x.put(1 << 30);
        // Form 1's one part of 32 bits: 36 by width 0, 36 by each width below 32, 32 by 32.
        due.is("form 1, width 32", x.best(1), 32);
        due.is("its bits", x.best(2), 49 + 32);
        due.is("as many by form 2", x.total(2, 0), 81);
        due.is("the lower form", x.best(0), 1);
        x.forget();
        for (int i = 0; i < 3; i++) {
            x.gap();
        }
        due.is("gaps alone: form", x.best(0), 0);
        due.is("gaps alone: width", x.best(1), 0);
        due.is("gaps alone: bits", x.best(2), 52);
    }

    private static void narrow() {
        PatchedColumns x = new PatchedColumns();
        due.is("narrow of none", x.narrow(0, 0), Made.NONE);
        x.gap();
        due.is("narrow of a gap", x.narrow(0, 0), 0);
        due.is("narrow of a gap by form 1", x.narrow(1, 0), Made.NONE);
        x.put(Made.MIN);
        x.put(Made.MAX);
        x.put(Made.MIN + 5);
        // Form 0: 0, 4294967295, 5. Form 1: -1 and 6: 1, 12. Form 2: step -1: 0, 7.
        due.is("narrow(0, 0)", x.narrow(0, 0), 1);
        due.is("narrow(0, 3)", x.narrow(0, 3), 1);
        due.is("narrow(0, 32)", x.narrow(0, 32), 1);
        due.is("narrow(0, 31)", x.narrow(0, 31), 0);
        due.is("narrow(1, 1)", x.narrow(1, 1), 1);
        due.is("narrow(1, 4)", x.narrow(1, 4), 1);
        due.is("narrow(2, 0)", x.narrow(2, 0), 1);
        due.is("narrow(2, 3)", x.narrow(2, 3), 1);
        due.is("narrow(0, -1)", x.narrow(0, -1), Made.NONE);
        due.is("narrow(0, 33)", x.narrow(0, 33), Made.NONE);
        due.is("narrow(3, 0)", x.narrow(3, 0), Made.NONE);
        due.is("narrow(-1, 0)", x.narrow(-1, 0), Made.NONE);
    }

    private static void folded() {
        PatchedColumns x = new PatchedColumns();
        due.is("folded(0)", x.folded(0), 0);
        due.is("folded(1)", x.folded(1), 2);
        due.is("folded(-1)", x.folded(-1), 1);
        due.is("folded(-5)", x.folded(-5), 9);
        due.is("folded(MAX)", x.folded(Made.MAX), 4294967294L);
        due.is("folded(MIN)", x.folded(Made.MIN), 4294967295L);
    }
}
