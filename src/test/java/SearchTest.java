/** Promises 44 to 48 and 50 to 63: what a column would have, and what is found in it. */
final class SearchTest {
    private static final Due due = new Due();

    public static void main(String[] args) {
        leastAndCuts();
        evenly();
        evenest();
        heaviest();
        difference();
        would();
        sorted();
        find();
        looks();
        sum();
        count();
        skipped();
        ranked();
        distinct();
        run();
        unlikeAndAlike();
        ratio();
        nothingChanges();
        due.end("SearchTest");
    }

    private static void leastAndCuts() {
        PatchedColumns x = new PatchedColumns();
        due.is("least of none", x.least(0), Made.NONE);
        due.is("cuts of none", x.cuts(0, -1), Made.NONE);
        due.is("cuts of none", x.cuts(0, 0), Made.NONE);
        Made.block(x, 0, 0, 0, 0, 0, 1000000000);
        Made.block(x, 0, 1000004000, 1000000005, 1000003995);
        due.is("least", x.least(0), 137);
        due.is("cuts", x.cuts(0, -1), 2);
        due.is("cuts(0, 0)", x.cuts(0, 0), 4);
        due.is("cuts(0, 1)", x.cuts(0, 1), 4);
        due.is("cuts(0, 2)", x.cuts(0, 2), Made.NONE);
        due.is("cuts(0, 24)", x.cuts(0, 24), Made.NONE);
        due.is("cuts(0, MAX)", x.cuts(0, Made.MAX), Made.NONE);
        due.is("cuts(0, -2)", x.cuts(0, -2), Made.NONE);
        due.is("cuts(0, MIN)", x.cuts(0, Made.MIN), Made.NONE);
        due.is("it stays as it is", x.block(0, 0, 0), 5);
        due.is("least of another one", x.least(1), Made.NONE);
        for (int c : Made.NO_COLUMNS) {
            due.is("least(" + c + ")", x.least(c), Made.NONE);
            due.is("cuts(" + c + ", -1)", x.cuts(c, -1), Made.NONE);
            due.is("cuts(" + c + ", 0)", x.cuts(c, 0), Made.NONE);
        }
        Made.block(x, 1, null, null, null);
        due.is("least of gaps", x.least(1), 52);
        x.clear(0, 7);
        due.is("least once it is changed", x.least(0), 49 + 49 + 4 + 2 * 13);
        x.undo();
        due.is("least once it is taken back", x.least(0), 137);
        x.shift(0, 1);
        due.is("least once it is shifted", x.least(0), 137);
    }

    private static void evenly() {
        PatchedColumns x = new PatchedColumns();
        due.is("evenly of none", x.evenly(0, 5), 0);
        Made.block(x, 0, 3, 3, 3);
        Made.block(x, 0, 3, null, 4);
        due.is("by 1", x.evenly(0, 1), 49 * 5 + 50);
        due.is("by 2", x.evenly(0, 2), 49 + 49 + 49 + 2);
        due.is("by 4", x.evenly(0, 4), 49 + 49 + 2);
        due.is("by 6", x.evenly(0, 6), 49 + 6 + 5);
        due.is("by 16", x.evenly(0, 16), 60);
        due.is("by 0", x.evenly(0, 0), Made.NONE);
        due.is("by 17", x.evenly(0, 17), Made.NONE);
        due.is("by -1", x.evenly(0, -1), Made.NONE);
        due.is("by MIN", x.evenly(0, Made.MIN), Made.NONE);
        for (int c : Made.NO_COLUMNS) {
            due.is("evenly(" + c + ", 1)", x.evenly(c, 1), Made.NONE);
        }
        // More than 24 blocks are fine here: nothing becomes of them.
        due.is("128 by 1", Made.full().evenly(0, 1), 128 * 49);
    }

    private static void evenest() {
        PatchedColumns x = new PatchedColumns();
        due.is("evenest of none", x.evenest(0), Made.NONE);
        Made.block(x, 0, 3, 3, 3, 3, 3);
        due.is("of like ones the least", x.evenest(0), 5);
        Made.block(x, 1, 0, 0, 0, 0, 1000000000, 1000004000, 1000000005, 1000003995);
        due.is("by 4", x.evenest(1), 4);
        due.is("by 1", Made.ones(1).evenest(0), 1);
        x = Made.ones(16);
        due.is("by 16", x.evenest(0), 16);
        for (int c : Made.NO_COLUMNS) {
            due.is("evenest(" + c + ")", x.evenest(c), Made.NONE);
        }
    }

    private static void heaviest() {
        PatchedColumns x = new PatchedColumns();
        due.is("heaviest of none", x.heaviest(0), Made.NONE);
        Made.block(x, 0, 3, 3);
        due.is("the only one", x.heaviest(0), 0);
        Made.block(x, 0, 3);
        Made.block(x, 0, 4);
        due.is("of like ones the first", x.heaviest(0), 1);
        Made.block(x, 0, new Integer[] {null});
        due.is("50 for one", x.heaviest(0), 3);
        // Four told by width 4: 65 by 4 is 16.25, and 49 by 3 is 16.33: 16 both, if rounded.
        x = new PatchedColumns();
        Made.words(x, 3 | 4 << 7, 0, 0);
        due.is("opened", x.open(0), 4);
        Made.block(x, 0, 1, 1, 1);
        due.is("exactly", x.heaviest(0), 1);
        x = Made.with(1, 1, 1);
        Made.block(x, 0, 0, 1);
        // 49 by 3 is 16.3; 51 by 2 is 25.5.
        due.is("for each place", x.heaviest(0), 1);
        for (int c : Made.NO_COLUMNS) {
            due.is("heaviest(" + c + ")", x.heaviest(c), Made.NONE);
        }
    }

    private static void difference() {
        PatchedColumns x = Made.with(null, 5, null);
        Made.block(x, 0, null, 3);
        Made.block(x, 0, Made.MIN, Made.MAX);
        due.is("an empty one", x.difference(0, 0), Made.EMPTY);
        due.is("all ahead are empty", x.difference(0, 1), Made.EMPTY);
        due.is("empty", x.difference(0, 2), Made.EMPTY);
        due.is("from the block ahead", x.difference(0, 4), -2);
        due.is("going round", x.difference(0, 5), Made.MIN - 3);
        due.is("going round", x.difference(0, 6), -1);
        due.is("behind the end", x.difference(0, 7), Made.ABSENT);
        due.is("ahead of all", x.difference(0, -1), Made.ABSENT);
        due.is("from the first of all", Made.with(4, null, 9).difference(0, 2), 5);
        due.is("the first of all", Made.with(4).difference(0, 0), Made.EMPTY);
        for (int c : Made.NO_COLUMNS) {
            due.is("difference(" + c + ", 0)", x.difference(c, 0), Made.ABSENT);
        }
    }

    private static void would() {
        PatchedColumns x = Made.with(5, 7, 6);
        Made.block(x, 0, 1, null);
        due.is("would", x.would(0, 0, 8), 51 + 51);
        due.is("would in the second", x.would(0, 4, 1), 55 + 49);
        due.is("would as it is", x.would(0, 3, 1), 55 + 51);
        due.is("the value stays", x.value(0, 0), 5);
        due.is("the empty one stays", x.value(0, 4), Made.EMPTY);
        due.is("no step", x.about(1), 2);
        due.is("would(0, 5)", x.would(0, 5, 1), Made.NONE);
        due.is("would(0, -1)", x.would(0, -1, 1), Made.NONE);
        due.is("would(1, 0)", x.would(1, 0, 1), Made.NONE);
        for (int c : Made.NO_COLUMNS) {
            due.is("would(" + c + ", 0, 0)", x.would(c, 0, 0), Made.NONE);
        }
        Made.words(x, 1 | 5 << 7, 2 << 22);
        x.open(1);
        due.is("by BEST, also as it is", x.would(1, 0, 0), 52);
    }

    private static void sorted() {
        PatchedColumns x = Made.with(Made.MIN, null, -1);
        due.yes("sorted, empty ones aside", x.sorted(0));
        Made.block(x, 0, -1, Made.MAX);
        due.yes("like ones", x.sorted(0));
        Made.block(x, 0, null, Made.MAX - 1);
        due.no("below the one ahead", x.sorted(0));
        due.yes("without blocks", x.sorted(1));
        for (int c : Made.NO_COLUMNS) {
            due.no("sorted(" + c + ")", x.sorted(c));
        }
    }

    private static void find() {
        PatchedColumns x = Made.with(null, 2, 4);
        Made.block(x, 0, new Integer[] {null});
        Made.block(x, 0, 4, 9);
        due.is("find MIN", x.find(0, Made.MIN), 1);
        due.is("find 2", x.find(0, 2), 1);
        due.is("find 3", x.find(0, 3), 2);
        due.is("find 4", x.find(0, 4), 2);
        due.is("find 5", x.find(0, 5), 5);
        due.is("find 9", x.find(0, 9), 5);
        due.is("find 10", x.find(0, 10), Made.NONE);
        due.is("find MAX", x.find(0, Made.MAX), Made.NONE);
        due.is("find in none", x.find(1, 0), Made.NONE);
        Made.block(x, 0, 1);
        due.is("find in an unsorted one", x.find(0, 2), -2);
        for (int c : Made.NO_COLUMNS) {
            due.is("find(" + c + ", 0)", x.find(c, 0), -2);
        }
    }

    private static void looks() {
        PatchedColumns x = new PatchedColumns();
        for (int i = 0; i < 7; i++) {
            Made.block(x, 0, i * 10);
            if (i % 2 == 0) {
                Made.block(x, 0, new Integer[] {null});
            }
        }
        // Seven with values. 0: at 3, 1, 0. 15: at 3, 1, 2. 65: at 3, 5, 6.
        due.is("looks 0", x.looks(0, 0), 3);
        due.is("looks 15", x.looks(0, 15), 3);
        due.is("looks 65", x.looks(0, 65), 3);
        Made.block(x, 0, 70);
        // Eight: 80: at 4, 6, 7. 0: at 4, 2, 1, 0.
        due.is("looks 80", x.looks(0, 80), 3);
        due.is("looks 0", x.looks(0, 0), 4);
        // 10: at 4, 2, 1, which isn't below it, and 0. 11: at 4, 2, 1.
        due.is("looks 10", x.looks(0, 10), 4);
        due.is("looks 11", x.looks(0, 11), 3);
        due.is("looks in none", x.looks(1, 5), 0);
        Made.block(x, 2, null, null);
        due.is("looks in gaps", x.looks(2, 5), 0);
        Made.block(x, 2, -40);
        Made.block(x, 2, -20);
        // Two with values behind the gaps, at -20 first: and then at -40, if it isn't below.
        due.is("looks -20", x.looks(2, -20), 2);
        due.is("looks -19", x.looks(2, -19), 1);
        due.is("looks -50", x.looks(2, -50), 2);
        Made.block(x, 0, 1);
        due.is("looks in an unsorted one", x.looks(0, 2), -2);
        for (int c : Made.NO_COLUMNS) {
            due.is("looks(" + c + ", 0)", x.looks(c, 0), -2);
        }
    }

    private static void sum() {
        PatchedColumns x = Made.with(Made.MAX, null, Made.MAX);
        Made.block(x, 0, -5, 1);
        due.is("sum of all", x.sum(0, 0, 5), 2L * Made.MAX - 4);
        due.is("sum(0, 1, 4)", x.sum(0, 1, 4), Made.MAX - 5L);
        due.is("sum(0, 2, 2)", x.sum(0, 2, 2), 0);
        due.is("sum(0, 3, 5)", x.sum(0, 3, 5), -4);
        due.is("from above to", x.sum(0, 3, 2), 0);
        due.is("from below 0", x.sum(0, -1, 2), 0);
        due.is("to behind the end", x.sum(0, 0, 6), 0);
        for (int c : Made.NO_COLUMNS) {
            due.is("sum(" + c + ", 0, 1)", x.sum(c, 0, 1), 0);
        }
    }

    private static void count() {
        PatchedColumns x = Made.with(1, null, 5);
        Made.block(x, 0, 5, 9, Made.MIN, Made.MAX);
        due.is("count(1, 5)", x.count(0, 1, 5), 3);
        due.is("count(5, 5)", x.count(0, 5, 5), 2);
        due.is("count(2, 4)", x.count(0, 2, 4), 0);
        due.is("count(5, 1)", x.count(0, 5, 1), 0);
        due.is("count all", x.count(0, Made.MIN, Made.MAX), 6);
        due.is("count in none", x.count(1, Made.MIN, Made.MAX), 0);
        for (int c : Made.NO_COLUMNS) {
            due.is("count(" + c + ", 0, 1)", x.count(c, 0, 1), Made.NONE);
        }
    }

    private static void skipped() {
        PatchedColumns x = Made.with(5, 7, 6);
        Made.block(x, 0, 10, 20, 30, 1000000);
        Made.block(x, 0, null, null);
        Made.block(x, 0, 0, 1, 0, 1, 0, 1, 0, 1, 0, 1, 1000);
        Made.block(x, 0, Made.MAX - 2, Made.MAX, Made.MAX - 2);
        // By turns: 5 .. 8; form 1; gaps; exceptions; 2147483645 .. above all.
        due.is("gaps always", x.skipped(0, Made.MIN, Made.MAX), 1);
        due.is("8 is within", x.skipped(0, 8, Made.MAX), 1);
        due.is("9 is above", x.skipped(0, 9, Made.MAX), 2);
        due.is("5 is within", x.skipped(0, 0, 5), 2);
        due.is("4 is below", x.skipped(0, 0, 4), 3);
        due.is("the reach doesn't go round", x.skipped(0, Made.MAX, Made.MAX), 2);
        due.is("exceptions are read", x.skipped(0, -9, -5), 3);
        due.is("in none", x.skipped(1, 0, 1), 0);
        for (int c : Made.NO_COLUMNS) {
            due.is("skipped(" + c + ", 0, 1)", x.skipped(c, 0, 1), Made.NONE);
        }
        Made.words(x, 1 | 32 << 7, 1 << 16, 0, 0);
        x.open(1);
        due.is("the widest reaches up to -1 and 2147483647", x.skipped(1, Made.MAX, Made.MAX), 0);
    }

    private static void ranked() {
        PatchedColumns x = Made.with(5, null, -3);
        Made.block(x, 0, 5, Made.MAX, Made.MIN);
        long[] want = {Made.MIN, -3, 5, 5, Made.MAX};
        for (int k = 0; k < 5; k++) {
            due.is("ranked(0, " + k + ")", x.ranked(0, k), want[k]);
        }
        due.is("ranked(0, 5)", x.ranked(0, 5), Made.ABSENT);
        due.is("ranked(0, -1)", x.ranked(0, -1), Made.ABSENT);
        due.is("ranked(0, MIN)", x.ranked(0, Made.MIN), Made.ABSENT);
        due.is("ranked(1, 0)", x.ranked(1, 0), Made.ABSENT);
        for (int c : Made.NO_COLUMNS) {
            due.is("ranked(" + c + ", 0)", x.ranked(c, 0), Made.ABSENT);
        }
    }

    private static void distinct() {
        PatchedColumns x = Made.with(5, null, -3, null);
        due.is("distinct", x.distinct(0), 2);
        Made.block(x, 0, 5, -3, 0);
        due.is("distinct", x.distinct(0), 3);
        due.is("distinct of none", x.distinct(1), 0);
        for (int c : Made.NO_COLUMNS) {
            due.is("distinct(" + c + ")", x.distinct(c), Made.NONE);
        }
    }

    private static void run() {
        PatchedColumns x = Made.with(5, 5, null);
        due.is("run", x.run(0), 2);
        Made.block(x, 0, null, 5, 4, 4);
        due.is("empty ones aside, over blocks", x.run(0), 3);
        due.is("run of none", x.run(1), 0);
        Made.block(x, 1, null, null);
        due.is("run of gaps", x.run(1), 0);
        due.is("run of 0", Made.with(0, 0).run(0), 2);
        for (int c : Made.NO_COLUMNS) {
            due.is("run(" + c + ")", x.run(c), Made.NONE);
        }
    }

    private static void unlikeAndAlike() {
        PatchedColumns x = Made.with(5, null, 6);
        Made.block(x, 1, 5);
        Made.block(x, 1, null, 6);
        due.yes("alike though cut otherwise", x.alike(0, 1));
        due.is("unlike nowhere", x.unlike(0, 1), Made.NONE);
        due.yes("alike itself", x.alike(0, 0));
        x.set(1, 1, 0);
        due.is("empty and 0", x.unlike(0, 1), 1);
        due.no("empty and 0", x.alike(0, 1));
        x.clear(1, 1);
        Made.block(x, 1, 7);
        due.is("just one has it", x.unlike(0, 1), 3);
        due.is("just one has it", x.unlike(1, 0), 3);
        due.no("just one has it", x.alike(1, 0));
        due.is("none at all", x.unlike(2, 0), 0);
        Made.block(x, 2, 5, null, 6, null);
        due.is("an empty one that just one has", x.unlike(0, 2), 3);
        for (int c : Made.NO_COLUMNS) {
            due.is("unlike(" + c + ", 0)", x.unlike(c, 0), Made.NONE);
            due.is("unlike(0, " + c + ")", x.unlike(0, c), Made.NONE);
            due.no("alike(" + c + ", 0)", x.alike(c, 0));
            due.no("alike(0, " + c + ")", x.alike(0, c));
            due.no("alike(" + c + ", " + c + ")", x.alike(c, c));
        }
    }

    private static void ratio() {
        PatchedColumns x = new PatchedColumns();
        due.is("ratio of none", x.ratio(0), 0);
        for (int i = 1; i <= 128; i++) {
            x.put(i * i * i);
            if (i % 3 == 0 || i > 60) {
                x.flush(i % 2);
            }
            for (int c = 0; c < 2; c++) {
                int places = x.column(c, 1);
                long want = places == 0 ? 0
                        : Double.doubleToLongBits(x.column(c, 3) / (32.0 * places));
                due.is("ratio of " + x.column(c, 3) + " and " + places, x.ratio(c), want);
            }
        }
        due.is("49 of 32", Made.with(3).ratio(0), Double.doubleToLongBits(49 / 32.0));
        Made.words(x, 15 << 7, 0);
        x.open(2);
        due.is("64 of 32", x.ratio(2), Double.doubleToLongBits(2.0));
        Made.words(x, 32 << 7, 0, 0);
        x.open(2);
        due.is("81 of 32", x.ratio(2), Double.doubleToLongBits(81 / 32.0));
        for (int c : Made.NO_COLUMNS) {
            due.is("ratio(" + c + ")", x.ratio(c), 0);
        }
    }

    /** All but the calls of part I change nothing. */
    private static void nothingChanges() {
        PatchedColumns x = Made.full();
        x.set(0, 3, 1000000);
        x.clear(0, 20);
        x.put(3);
        String before = Made.shown(x, 0);
        x.least(0);
        x.cuts(0, 0);
        x.evenly(0, 3);
        x.evenest(0);
        x.would(0, 20, 5);
        x.total(0, 1);
        x.best(0);
        x.narrow(0, 0);
        x.bits(0, 0, 0);
        x.part(0, 0, 0);
        x.column(0, 5);
        due.yes("the column stays", Made.shown(x, 0).equals(before));
        due.is("steps stay", x.about(1), 10);
        due.is("pending stays", x.about(0), 1);
        due.is("X stays", x.about(3), 647);
        due.is("the tape stays", x.about(2), 0);
    }
}
