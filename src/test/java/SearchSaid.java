import java.util.LinkedHashMap;
import java.util.Map;
import java.util.function.ToLongFunction;

/** II: what is READ, SORTED, .. LEAST; promises 44 to 48, 50 to 63. */
final class SearchSaid {
    private static final int NONE = Made.NONE;
    private static final int MIN = Made.MIN;
    private static final int MAX = Made.MAX;

    private SearchSaid() {
    }

    static void tell(Sentences said) {
        said.in(Sentences.SECOND);
        nothingChanges(said);
        readAndSorted(said);
        findAndLooks(said);
        skipped(said);
        bounds(said);
        wasteAndLeast(said);
        cutPromises(said);
        evenPromises(said);
        heaviest(said);
        difference(said);
        would(said);
        sortedPromises(said);
        sumAndCount(said);
        rankedPromises(said);
        unlikePromises(said);
        ratio(said);
    }

    private static PatchedColumns wastedAndMore() {
        PatchedColumns x = Made.wasted();
        x.put(4);
        x.gap();
        x.put(5);
        x.walk(1, 5, 9, 20);
        x.word(5);
        return x;
    }

    /** Every call that asks, with numbers that it can answer. */
    private static Map<String, ToLongFunction<PatchedColumns>> everyAsk() {
        Map<String, ToLongFunction<PatchedColumns>> asks = new LinkedHashMap<>();
        asks.put("tape", x -> x.tape(0));
        asks.put("fault", x -> x.fault(0));
        asks.put("column", x -> x.column(0, 5));
        asks.put("block", x -> x.block(0, 0, 5));
        asks.put("like", x -> x.like(0, 0, 2));
        asks.put("filled", x -> x.filled(0));
        asks.put("empties", x -> x.empties(0, 0, 2));
        asks.put("base", x -> x.base(0, 0, 0));
        asks.put("bits", x -> x.bits(0, 0, 0));
        asks.put("bound", x -> x.bound(0, 0, true));
        asks.put("value", x -> x.value(0, 0));
        asks.put("blockOf", x -> x.blockOf(0, 0));
        asks.put("read", x -> x.read(0, 0));
        asks.put("patched", x -> x.patched(0, 0) ? 1 : 0);
        asks.put("part", x -> x.part(0, 0, 0));
        asks.put("pending", x -> x.pending(0));
        asks.put("total", x -> x.total(0, 2));
        asks.put("best", x -> x.best(2));
        asks.put("narrow", x -> x.narrow(0, 0));
        asks.put("least", x -> x.least(0));
        asks.put("cuts", x -> x.cuts(0, 0));
        asks.put("evenly", x -> x.evenly(0, 3));
        asks.put("evenest", x -> x.evenest(0));
        asks.put("heaviest", x -> x.heaviest(0));
        asks.put("folded", x -> x.folded(5));
        asks.put("difference", x -> x.difference(0, 1));
        asks.put("would", x -> x.would(0, 0, 99));
        asks.put("sorted", x -> x.sorted(0) ? 1 : 0);
        asks.put("find", x -> x.find(1, 5));
        asks.put("looks", x -> x.looks(1, 5));
        asks.put("sum", x -> x.sum(0, 0, 2));
        asks.put("count", x -> x.count(0, 0, 9));
        asks.put("skipped", x -> x.skipped(0, 0, 9));
        asks.put("ranked", x -> x.ranked(0, 0));
        asks.put("distinct", x -> x.distinct(0));
        asks.put("run", x -> x.run(0));
        asks.put("unlike", x -> x.unlike(0, 1));
        asks.put("alike", x -> x.alike(0, 1) ? 1 : 0);
        asks.put("ratio", x -> x.ratio(0));
        asks.put("about", x -> x.about(0));
        return asks;
    }

    private static void nothingChanges(Sentences said) {
        said.that("All that follows changes nothing but what is told.", due ->
            everyAsk().forEach((name, ask) -> {
                new Twins(due, Made::mixed).keeps(name, ask);
                new Twins(due, SearchSaid::wastedAndMore).keeps(name, ask);
                PatchedColumns x = wastedAndMore();
                due.is(name + " again", ask.applyAsLong(x), ask.applyAsLong(x));
            })
        );
    }

    private static void readAndSorted(Sentences said) {
        said.that("READ, a PLACE: PARTS that must be asked for its VALUE: of FORM 0 one;", due -> {
            PatchedColumns x = Made.with(5, 7, 6);
            for (int i = 0; i < 3; i++) {
                due.is("read(0, " + i + ")", x.read(0, i), 1);
            }
        }).that("of FORM 1, 2 as many as there are VALUES ahead of it in its BLOCK;", due -> {
            PatchedColumns x = Made.with(1, 1);
            Made.block(x, 0, null, 10, null, 9, 8, null, 7);
            due.is("form 1", x.block(0, 1, 2), 1);
            due.is("the first", x.read(0, 3), 0);
            due.is("the second", x.read(0, 5), 1);
            due.is("the fourth", x.read(0, 8), 3);
            x = new Bits().head(1, 0, 0, 0, 7).fill().head(3, 2, 0, 0, 7).of(5, 32).fill().onTape();
            x.open(0);
            for (int i = 0; i < 3; i++) {
                due.is("form 2", x.read(0, 1 + i), i);
            }
        }).that("EMPTY: none.", due -> {
            PatchedColumns x = Made.with(null, 10, null, 9, 8, null, 7);
            due.is("ahead of all", x.read(0, 0), 0);
            due.is("behind some", x.read(0, 5), 0);
            due.is("by form 0", Made.with(5, null).read(0, 1), 0);
        }).that("SORTED is a COLUMN in which no VALUE is below the one ahead", due -> {
            PatchedColumns x = Made.with(MIN, -1, -1);
            Made.block(x, 0, -1, MAX);
            due.yes("like ones, too", x.sorted(0));
            Made.block(x, 0, MAX - 1);
            due.no("below the one in the block ahead", x.sorted(0));
            due.no("in one block", Made.with(1, 3, 2).sorted(0));
            due.no("far apart", Made.with(MAX, MIN).sorted(0));
            due.yes("far apart", Made.with(MIN, MAX).sorted(0));
        }).that("(EMPTY ones aside).", due -> {
            due.yes("sorted", Made.with(1, null, 1, null, 2).sorted(0));
            due.no("not sorted", Made.with(2, null, 1).sorted(0));
            due.yes("gaps alone", Made.with(null, null).sorted(0));
        });
    }

    private static PatchedColumns bases(int blocks, boolean gaps) {
        PatchedColumns x = new PatchedColumns();
        for (int i = 1; i <= blocks; i++) {
            if (gaps) {
                Made.block(x, 0, null, null);
            }
            Made.block(x, 0, i * 10, i * 10 + 5);
        }
        return x;
    }

    private static void looked(Due due, int blocks, boolean gaps, int value, int want) {
        due.is("looks of " + blocks + " for " + value, bases(blocks, gaps).looks(0, value), want);
    }

    private static void findAndLooks(Sentences said) {
        said.that("FIND v in a SORTED COLUMN: the first PLACE whose VALUE is v or more.", due -> {
            PatchedColumns x = Made.with(null, 2, 4, 4);
            Made.block(x, 0, null, 4, 9);
            int[][] want = {{MIN, 1}, {1, 1}, {2, 1}, {3, 2}, {4, 2}, {5, 6}, {9, 6}, {10, NONE}, {MAX, NONE}};
            for (int[] one : want) {
                due.is("find " + one[0], x.find(0, one[0]), one[1]);
            }
        }).that("LOOKS: BASES of BLOCKS that have VALUES are looked at by halves:", due -> {
            for (int v : new int[] {5, 15, 25, 35, 45, 60}) {
                due.is("gaps don't count", bases(5, true).looks(0, v), bases(5, false).looks(0, v));
            }
            PatchedColumns x = Made.with(null, null);
            due.is("gaps alone", x.looks(0, 5), 0);
        }).that("low 0, high how many such BLOCKS there are;", due -> {
            looked(due, 1, false, 5, 1);
            looked(due, 1, true, 5, 1);
            looked(due, 1, false, 50, 1);
            // 24: at 12, 6, 3, 1, 0; and at 12, 18, 21, 23.
            PatchedColumns x = Made.ones(24);
            due.is("24, the least", x.looks(0, -5), 5);
            due.is("24, the greatest", x.looks(0, 99), 4);
            // At 12, 6, 3, 1, and at 0, which is below 1.
            due.is("24, the second", x.looks(0, 1), 5);
            due.is("none", x.looks(1, 99), 0);
        }).that("as long as low is below high the one in the middle (their sum by 2, downward):", due -> {
            looked(due, 2, false, 21, 1);
            looked(due, 2, false, 20, 2);
            looked(due, 3, false, 5, 2);
            looked(due, 3, false, 99, 2);
            looked(due, 5, false, 99, 2);
            looked(due, 5, false, 5, 3);
            looked(due, 4, false, 5, 3);
            looked(due, 4, false, 99, 2);
        }).that("is its BASE below v, low is one behind it,", due -> {
            // Five: 30 is below 31, so 50 and 40 come next; 30 isn't below 30, so 20 comes.
            looked(due, 5, false, 31, 3);
            looked(due, 5, false, 30, 2);
            looked(due, 5, false, 51, 2);
            looked(due, 5, false, 50, 3);
            looked(due, 2, false, MAX, 1);
        }).that("else high is it: how many are looked at.", due -> {
            looked(due, 5, false, 20, 3);
            looked(due, 5, false, 21, 2);
            looked(due, 5, false, 10, 3);
            looked(due, 5, false, 11, 3);
            looked(due, 2, false, MIN, 2);
        });
    }

    private static void skipped(Sentences said) {
        said.that("SKIPPED by bounds low .. high: BLOCKS without VALUES,", due -> {
            PatchedColumns x = Made.with(null, null);
            Made.block(x, 0, new Integer[] {null});
            due.is("by all", x.skipped(0, MIN, MAX), 2);
            due.is("by 0", x.skipped(0, 0, 0), 2);
            due.is("low above high", x.skipped(0, 1, 0), 2);
            due.is("low far above high", x.skipped(0, MAX, MIN), 2);
            x = new Bits().masked(2, 3, 0, 5, 0, 0).fill().onTape();
            x.open(0);
            due.is("told by a width", x.skipped(0, 0, 0), 1);
            due.is("told by a width, low above high", x.skipped(0, 1, 0), 1);
        }).that("and BLOCKS of FORM 0 without EXCEPTIONS whose BASE is above high,", due -> {
            PatchedColumns x = Made.with(5, 7, 6);
            due.is("form", x.block(0, 0, 2), 0);
            due.is("high 5", x.skipped(0, MIN, 5), 0);
            due.is("high 4", x.skipped(0, MIN, 4), 1);
            due.is("high MIN", x.skipped(0, MIN, MIN), 1);
            due.is("low above high", x.skipped(0, 6, 5), 0);
            due.is("low above high, both apart", x.skipped(0, 6, 4), 1);
            x = Made.with(0, 1, 0, 1, 0, 1, 0, 1, 0, 1, 1000);
            due.is("one exception", x.block(0, 0, 4), 1);
            due.is("exceptions, high below", x.skipped(0, -9, -5), 0);
            x = Made.with(10, 20, 30, 1000000);
            due.is("form 1", x.block(0, 0, 2), 1);
            due.is("form 1, high below", x.skipped(0, -9, -5), 0);
            x = new Bits().head(2, 2, 0, 0, 7).of(5, 32).fill().onTape();
            x.open(0);
            due.is("form 2, high below", x.skipped(0, -9, -5), 0);
            x = new Bits().head(2, 1, 0, 0, 7).fill().onTape();
            x.open(0);
            due.is("form 1 without exceptions", x.skipped(0, -9, -5), 0);
        }).that("or whose BASE and the greatest number of WIDTH bits together (not going round) are below low.",
                due -> {
            PatchedColumns x = Made.with(5, 7, 6);
            due.is("low 8", x.skipped(0, 8, MAX), 0);
            due.is("low 9", x.skipped(0, 9, MAX), 1);
            due.is("width 0", Made.with(5).skipped(0, 6, MAX), 1);
            due.is("width 0, low 5", Made.with(5).skipped(0, 5, MAX), 0);
            x = Made.with(MAX - 2, MAX, MAX - 2);
            due.is("form", x.block(0, 0, 2), 0);
            due.is("above MAX", x.skipped(0, MAX, MAX), 0);
            x = new Bits().head(1, 0, 32, 0, 5).of(0, 32).fill().onTape();
            x.open(0);
            due.is("width 32", x.skipped(0, MAX, MAX), 0);
            x = new Bits().head(1, 0, 31, 0, MIN).of(0, 31).fill().onTape();
            x.open(0);
            due.is("up to -1", x.skipped(0, -1, MAX), 0);
            due.is("above -1", x.skipped(0, 0, MAX), 1);
            x = Made.with(0, 1, 0, 1, 0, 1, 0, 1, 0, 1, 1000);
            due.is("exceptions", x.skipped(0, 5000, 6000), 0);
            x = Made.with(10, 20, 30, 1000000);
            due.is("form 1", x.skipped(0, 5000000, 6000000), 0);
        });
    }

    private static void bounds(Sentences said) {
        said.that("BOUNDS of a BLOCK of FORM 0 with VALUES, its PARTS not being read: BASE;", due -> {
            due.is("low", Made.with(5, 7, 6).bound(0, 0, false), 5);
            due.is("low MIN", Made.with(MIN).bound(0, 0, false), MIN);
            due.is("form 1", Made.with(MAX, MIN).bound(0, 0, false), Made.ABSENT);
            due.is("without values", Made.with(null, null).bound(0, 0, false), Made.ABSENT);
            due.is("one value and gaps", Made.with(null, 8).bound(0, 0, false), 8);
        }).that("with EXCEPTIONS 2147483647,", due -> {
            PatchedColumns x = Made.with(0, 1, 0, 1, 0, 1, 0, 1, 0, 1, 1000);
            due.is("exceptions", x.block(0, 0, 4), 1);
            due.is("high", x.bound(0, 0, true), 2147483647);
            due.is("low", x.bound(0, 0, false), 0);
        }).that("else BASE and the greatest number of WIDTH bits together,", due -> {
            due.is("5 and 3", Made.with(5, 7, 6).bound(0, 0, true), 8);
            due.is("width 0", Made.with(MIN).bound(0, 0, true), MIN);
            PatchedColumns x = new Bits().head(1, 0, 31, 0, MIN).of(0, 31).fill().onTape();
            x.open(0);
            due.is("width 31", x.bound(0, 0, true), -1);
            x = new Bits().head(1, 0, 32, 0, MIN).of(0, 32).fill().onTape();
            x.open(0);
            due.is("width 32", x.bound(0, 0, true), MAX);
        }).that("2147483647 at most.", due -> {
            PatchedColumns x = Made.with(MAX - 2, MAX, MAX - 2);
            due.is("form", x.block(0, 0, 2), 0);
            due.is("one above it", x.bound(0, 0, true), 2147483647);
            x = new Bits().head(1, 0, 32, 0, MAX).of(0, 32).fill().onTape();
            x.open(0);
            due.is("far above it", x.bound(0, 0, true), 2147483647);
            x = new Bits().head(1, 0, 2, 0, MAX - 3).of(0, 2).fill().onTape();
            x.open(0);
            due.is("just it", x.bound(0, 0, true), 2147483647);
            x = new Bits().head(1, 0, 2, 0, MAX - 4).of(0, 2).fill().onTape();
            x.open(0);
            due.is("one below it", x.bound(0, 0, true), 2147483646);
        });
    }

    private static void wasteAndLeast(Sentences said) {
        said.that("WASTE of a COLUMN: BITS less those, were each of its BLOCKS told by BEST.", due -> {
            PatchedColumns x = Made.wasted();
            due.is("7 and 4", x.column(0, 5), 11);
            x.drop(0, 0);
            due.is("4", x.column(0, 5), 4);
            due.is("none", Made.full().column(0, 5), 0);
            x = new Bits().head(2, 2, 32, 0, 5).of(9, 32).of(0, 32).fill().onTape();
            x.open(0);
            // 5 14: by form 1 folded 18, of 5 bits.
            due.is("by another form", x.column(0, 5), 81 + 32 - 54);
        }).that("LEAST: its BITS, were it CUT ANEW.", due -> {
            PatchedColumns x = Made.with(0, 0, 0);
            Made.block(x, 0, 0, Made.WIDE[0], Made.WIDE[1], Made.WIDE[2], Made.WIDE[3]);
            due.is("least", x.least(0), 137);
            due.is("it stays as it is", x.block(0, 0, 0), 3);
            due.is("as it is cut", x.recut(0), 137);
        }).that("The constants: `NONE = -1`: None.", due -> due.is("NONE", PatchedColumns.NONE, -1));
    }

    private static void cutPromises(Sentences said) {
        said.promise(44).that("LEAST.", due -> {
            PatchedColumns x = Made.alike(17, 3);
            due.is("17 alike", x.least(0), 98);
            x.remove(0, 0);
            due.is("16 alike", x.least(0), 49);
            x.undo();
            due.is("17 again", x.least(0), 98);
            due.is("gaps", Made.with(null, null, null).least(0), 52);
            due.is("of two columns", Made.wasted().least(0), 57);
        }).that("NONE for others,", due ->
            new Twins(due, Made::mixed).answersEach(NONE, "least", Made.NO_COLUMNS, (x, c) -> x.least(c))
        ).that("and without BLOCKS.", due ->
            new Twins(due, Made::mixed).answers(NONE, "least", x -> x.least(2))
        );
        said.promise(45).that("CUT ANEW: PLACES of the i-th BLOCK", due -> {
            PatchedColumns x = Made.alike(34, 3);
            due.is("0", x.cuts(0, 0), 2);
            due.is("1", x.cuts(0, 1), 16);
            due.is("2", x.cuts(0, 2), 16);
            due.is("it stays as it is", x.block(0, 0, 0), 16);
            due.is("the 24th", Made.wideAndNarrow(24).cuts(0, 23), 4);
        }).that("(i NONE: how many BLOCKS).", due -> {
            due.is("34", Made.alike(34, 3).cuts(0, NONE), 3);
            due.is("1", Made.with(1).cuts(0, NONE), 1);
            due.is("128", Made.full().cuts(0, NONE), 8);
            due.is("24 blocks", Made.wideAndNarrow(24).cuts(0, NONE), 24);
            due.is("24 of one place", Made.ones(24).cuts(0, NONE), 2);
            PatchedColumns x = Made.with(0, 0, 0, 0, 0, Made.WIDE[0], Made.WIDE[1], Made.WIDE[2], Made.WIDE[3]);
            due.is("more than it has", x.cuts(0, NONE), 2);
            due.is("it stays as it is", x.column(0, 0), 1);
        }).that("NONE: there is none such,", due ->
            new Twins(due, () -> Made.alike(34, 3))
                    .answersEach(NONE, "cuts", new int[] {MIN, -3, -2, 3, 4, 23, 24, 25, MAX}, (x, i) -> x.cuts(0, i))
        ).that("and for others.", due ->
            new Twins(due, Made::mixed)
                    .answersEach(NONE, "cuts(c, 0)", Made.NO_COLUMNS, (x, c) -> x.cuts(c, 0))
                    .answersEach(NONE, "cuts(c, -1)", Made.NO_COLUMNS, (x, c) -> x.cuts(c, -1))
                    .answers(NONE, "cuts(2, 0)", x -> x.cuts(2, 0))
                    .answers(NONE, "cuts(2, -1)", x -> x.cuts(2, -1))
        );
    }

    /** 125 places, by turns 5 alike, the first of them empty, and 5 that are far apart. */
    private static PatchedColumns alikeAndFarApart() {
        PatchedColumns x = new PatchedColumns();
        for (int i = 0; i < 125; i++) {
            if (i % 10 == 0) {
                x.gap();
            } else {
                x.put(i % 10 < 5 ? i / 10 : i * i * 1640531527);
            }
            if (i % 16 == 15 || i == 124) {
                x.flush(0);
            }
        }
        return x;
    }

    private static void evenPromises(Sentences said) {
        said.promise(46).that("BITS, were all PLACES of a COLUMN in BLOCKS of n (1 .. 16),", due -> {
            PatchedColumns x = Made.alike(16, 3);
            due.is("1", x.evenly(0, 1), 16 * 49);
            due.is("2", x.evenly(0, 2), 8 * 49);
            due.is("16", x.evenly(0, 16), 49);
            // More than 24 are fine here: nothing becomes of them.
            due.is("128 by 1", Made.full().evenly(0, 1), 128 * 49);
            due.is("without blocks", x.evenly(1, 5), 0);
        }).that("the last one of what is left, each by BEST.", due -> {
            PatchedColumns x = Made.with(3, 3, 3);
            Made.block(x, 0, 3, null, 4);
            due.is("by 4", x.evenly(0, 4), 49 + 51);
            due.is("by 5", x.evenly(0, 5), 54 + 49);
            due.is("by 16", x.evenly(0, 16), 49 + 6 + 5);
            due.is("by BEST", Made.wasted().evenly(0, 2), 52 + 51);
        }).that("NONE for others.", due ->
            new Twins(due, Made::mixed)
                    .answersEach(NONE, "evenly(0, n)", Made.outside(1, 16), (x, n) -> x.evenly(0, n))
                    .answersEach(NONE, "evenly(2, n)", Made.outside(1, 16), (x, n) -> x.evenly(2, n))
                    .answersEach(NONE, "evenly(c, 1)", Made.NO_COLUMNS, (x, c) -> x.evenly(c, 1))
        );
        said.promise(47).that("By which n that is the fewest,", due -> {
            PatchedColumns x = Made.wideAndNarrow(4);
            due.is("4", x.evenest(0), 4);
            due.is("1", Made.with(5).evenest(0), 1);
            due.is("16", Made.full().evenest(0), 16);
            x = alikeAndFarApart();
            // 25 blocks are more than a column has: nothing becomes of them.
            due.is("125 by 5", x.evenly(0, 5), 13 * (49 + 5) + 12 * (49 + 4 * 32));
            due.is("5", x.evenest(0), 5);
        }).that("of like ones the least.", due -> {
            due.is("5 alike", Made.alike(5, 3).evenest(0), 5);
            due.is("17 alike", Made.alike(17, 3).evenest(0), 9);
            due.is("one", Made.with(new Integer[] {null}).evenest(0), 1);
        }).that("NONE without BLOCKS,", due ->
            new Twins(due, Made::mixed).answers(NONE, "evenest", x -> x.evenest(2))
        ).that("and for others.", due ->
            new Twins(due, Made::mixed).answersEach(NONE, "evenest", Made.NO_COLUMNS, (x, c) -> x.evenest(c))
        );
    }

    private static void heaviest(Sentences said) {
        said.promise(48).that("The BLOCK with the most BITS for each of its PLACES", due -> {
            PatchedColumns x = Made.with(3, 3);
            Made.block(x, 0, 0, 1000);
            Made.block(x, 0, 3, 3, 3);
            due.is("24.5, 30, 16.3", x.heaviest(0), 1);
            Made.block(x, 0, 3);
            due.is("and 49", x.heaviest(0), 3);
            due.is("one alone", Made.with(3, 3).heaviest(0), 0);
            due.is("as they are told", Made.wasted().heaviest(0), 0);
            x = Made.with(1, 2);
            Made.block(x, 0, null, null, 1);
            due.is("empty places count: 25.5, 17.3", x.heaviest(0), 0);
            x = Made.with(null, null);
            Made.block(x, 0, 3, 3);
            due.is("places without values: 25.5, 24.5", x.heaviest(0), 0);
            x = Made.with(3, 3);
            Made.block(x, 0, null, null);
            due.is("24.5, and 25.5 without values", x.heaviest(0), 1);
        }).that("(BITS divided by PLACES, exactly),", due -> {
            // 65 by 4 is 16.25, 49 by 3 is 16.33.
            PatchedColumns x = new Bits().head(4, 0, 4, 0, 7).of(0, 16).fill().onTape();
            x.open(0);
            Made.block(x, 0, 1, 1, 1);
            due.is("the second", x.heaviest(0), 1);
        }).that("of like ones the first.", due -> {
            due.is("24 alike", Made.ones(24).heaviest(0), 0);
            PatchedColumns x = Made.with(3, 3);
            Made.block(x, 0, 3);
            Made.block(x, 0, 4);
            due.is("the first of two", x.heaviest(0), 1);
            // 49 by 1 and 98 by 2 are like.
            x = new Bits().head(1, 0, 0, 0, 7).fill().head(2, 0, 13, 1, 7).of(0, 26).of(1, 4).of(1, 19).fill()
                    .onTape();
            x.open(0);
            due.is("bits", x.block(0, 1, 5), 98);
            due.is("49 by 1", x.heaviest(0), 0);
            x.copy(0, 0, 1, 0);
            x.drop(0, 0);
            due.is("98 by 2", x.heaviest(0), 0);
        }).that("NONE without BLOCKS,", due ->
            new Twins(due, Made::mixed).answers(NONE, "heaviest", x -> x.heaviest(2))
        ).that("and for others.", due ->
            new Twins(due, Made::mixed).answersEach(NONE, "heaviest", Made.NO_COLUMNS, (x, c) -> x.heaviest(c))
        );
    }

    private static PatchedColumns withGaps() {
        PatchedColumns x = Made.with(null, 5, null);
        Made.block(x, 0, null, 3);
        Made.block(x, 0, MIN, MAX);
        return x;
    }

    private static void difference(Sentences said) {
        said.promise(50).that("The DIFFERENCE of a PLACE's VALUE from that of the nearest PLACE ahead, in the whole "
                + "COLUMN, that isn't EMPTY", due -> {
            due.is("over blocks and gaps", withGaps().difference(0, 4), -2);
            due.is("side by side", Made.with(4, 9).difference(0, 1), 5);
            due.is("from the nearest", Made.with(100, 4, null, 9).difference(0, 3), 5);
        }).that("(going round).", due -> {
            due.is("MIN from 3", withGaps().difference(0, 5), MAX - 2);
            due.is("MAX from MIN", withGaps().difference(0, 6), -1);
            due.is("MIN from MAX", Made.with(MAX, MIN).difference(0, 1), 1);
            due.is("MIN from 0", Made.with(0, MIN).difference(0, 1), MIN);
        }).that("As value() for others: 4294967296: it or all ahead are EMPTY;", due -> {
            PatchedColumns x = withGaps();
            due.is("it, ahead of all", x.difference(0, 0), 4294967296L);
            due.is("all ahead", x.difference(0, 1), 4294967296L);
            due.is("it", x.difference(0, 2), 4294967296L);
            due.is("it, a block's first", x.difference(0, 3), 4294967296L);
            due.is("none ahead", Made.with(7).difference(0, 0), 4294967296L);
        }).that("-4294967296: there is no such PLACE.", due ->
            new Twins(due, Made::mixed)
                    .answersEach(-4294967296L, "difference(0, n)", Made.outside(0, 4), (x, n) -> x.difference(0, n))
                    .answersEach(-4294967296L, "difference(c, 0)", Made.NO_COLUMNS, (x, c) -> x.difference(c, 0))
                    .answers(-4294967296L, "difference(2, 0)", x -> x.difference(2, 0))
        );
    }

    private static void would(Sentences said) {
        said.promise(51).that("BITS of a COLUMN, were a PLACE of it SET.", due -> {
            PatchedColumns x = Made.mixed();
            due.is("8 7 6", x.would(0, 0, 8), 51 + 51);
            due.is("as it is", x.would(0, 0, 5), 55 + 51);
            due.is("where it is empty", x.would(0, 4, 8), 55 + 49);
            due.is("the place stays", x.value(0, 4), Made.EMPTY);
            due.is("as it would be", x.set(0, 4, 8), 49);
            x = Made.wasted();
            due.is("its block by BEST, the other as it is told", x.would(0, 0, 7), 52 + 55);
            due.is("its block by BEST, the other as it is told", x.would(0, 3, 8), 59 + 51);
        }).that("NONE for others.", due ->
            new Twins(due, Made::mixed)
                    .answersEach(NONE, "would(0, n, 1)", Made.outside(0, 4), (x, n) -> x.would(0, n, 1))
                    .answersEach(NONE, "would(c, 0, 1)", Made.NO_COLUMNS, (x, c) -> x.would(c, 0, 1))
                    .answers(NONE, "would(2, 0, 1)", x -> x.would(2, 0, 1))
        );
    }

    private static void sortedPromises(Sentences said) {
        said.promise(52).that("Whether a COLUMN is SORTED.", due -> {
            PatchedColumns x = Made.mixed();
            due.no("column 0", x.sorted(0));
            due.yes("column 1", x.sorted(1));
            due.yes("without blocks", x.sorted(2));
        }).that("False for others.", due ->
            new Twins(due, Made::mixed)
                    .answersEach(0, "sorted", Made.NO_COLUMNS, (x, c) -> x.sorted(c) ? 1 : 0)
        );
        said.promise(53).that("FIND: the PLACE.", due -> {
            PatchedColumns x = Made.mixed();
            due.is("10", x.find(1, 10), 0);
            due.is("11", x.find(1, 11), 2);
            due.is("30", x.find(1, 30), 2);
            due.is("the last of 128", Made.full().find(0, 127), 127);
        }).that("NONE: there is none.", due ->
            new Twins(due, Made::mixed).answers(NONE, "31", x -> x.find(1, 31))
                    .answers(NONE, "without blocks", x -> x.find(2, MIN))
        ).that("-2: the COLUMN isn't SORTED,", due ->
            new Twins(due, Made::mixed).answers(-2, "column 0", x -> x.find(0, 5))
        ).that("and for others.", due ->
            new Twins(due, Made::mixed).answersEach(-2, "find", Made.NO_COLUMNS, (x, c) -> x.find(c, 5))
        );
        said.promise(54).that("LOOKS.", due -> {
            due.is("one", Made.mixed().looks(1, 5), 1);
            due.is("none", Made.mixed().looks(2, 5), 0);
            due.is("eight", Made.full().looks(0, 200), 3);
            due.is("eight", Made.full().looks(0, -5), 4);
        }).that("-2: the COLUMN isn't SORTED,", due ->
            new Twins(due, Made::mixed).answers(-2, "column 0", x -> x.looks(0, 5))
        ).that("and for others.", due ->
            new Twins(due, Made::mixed).answersEach(-2, "looks", Made.NO_COLUMNS, (x, c) -> x.looks(c, 5))
        );
    }

    private static PatchedColumns greatest() {
        PatchedColumns x = new PatchedColumns();
        for (int i = 0; i < 8; i++) {
            x.walk(0, MAX, 0, 16);
        }
        return x;
    }

    private static void sumAndCount(Sentences said) {
        said.promise(55).that("VALUES of PLACES from one on to another one (this not), together.", due -> {
            PatchedColumns x = withGaps();
            due.is("all", x.sum(0, 0, 7), 5 + 3 - 1);
            due.is("this not", x.sum(0, 0, 6), 8L + MIN);
            due.is("from one on", x.sum(0, 6, 7), MAX);
            due.is("gaps", x.sum(0, 2, 4), 0);
            due.is("none", x.sum(0, 7, 7), 0);
            due.is("not going round", greatest().sum(0, 0, 128), 128L * MAX);
        }).that("0 for others (0 .. PLACES; from no greater than to).", due ->
            new Twins(due, Made::mixed)
                    .answersEach(0, "sum(0, n, 5)", Made.outside(0, 5), (x, n) -> x.sum(0, n, 5))
                    .answersEach(0, "sum(0, 0, n)", Made.outside(0, 5), (x, n) -> x.sum(0, 0, n))
                    .answersEach(0, "sum(c, 0, 1)", Made.NO_COLUMNS, (x, c) -> x.sum(c, 0, 1))
                    .answers(0, "sum(0, 3, 2)", x -> x.sum(0, 3, 2))
                    .answers(0, "sum(2, 0, 1)", x -> x.sum(2, 0, 1))
        );
        said.promise(56).that("How many VALUES are within low .. high.", due -> {
            PatchedColumns x = withGaps();
            due.is("all", x.count(0, MIN, MAX), 4);
            due.is("3 .. 5", x.count(0, 3, 5), 2);
            due.is("4 .. 5", x.count(0, 4, 5), 1);
            due.is("3 .. 4", x.count(0, 3, 4), 1);
            due.is("5 .. 5", x.count(0, 5, 5), 1);
            due.is("5 .. 3", x.count(0, 5, 3), 0);
            due.is("MAX", x.count(0, MAX, MAX), 1);
            due.is("MIN", x.count(0, MIN, MIN), 1);
            due.is("the first place", Made.with(5, 6).count(0, 5, 5), 1);
            due.is("all of 128", Made.full().count(0, 0, 127), 128);
            due.is("without blocks", x.count(1, MIN, MAX), 0);
        }).that("NONE for others.", due ->
            new Twins(due, Made::mixed)
                    .answersEach(NONE, "count", Made.NO_COLUMNS, (x, c) -> x.count(c, MIN, MAX))
        );
        said.promise(57).that("SKIPPED: how many.", due -> {
            PatchedColumns x = Made.full();
            Made.block(x, 1, null, null);
            Made.block(x, 1, 5, 7, 6);
            Made.block(x, 1, 50, 53, 50, 53);
            due.is("one", x.skipped(1, MIN, MAX), 1);
            due.is("two", x.skipped(1, 20, MAX), 2);
            due.is("three", x.skipped(1, 20, 30), 3);
            due.is("without blocks", x.skipped(2, 0, 1), 0);
        }).that("NONE for others.", due ->
            new Twins(due, Made::mixed)
                    .answersEach(NONE, "skipped", Made.NO_COLUMNS, (x, c) -> x.skipped(c, MIN, MAX))
        );
    }

    private static void rankedPromises(Sentences said) {
        said.promise(58).that("The least (k 0), .. the k-th VALUE of a COLUMN by size, like ones each, as value().",
                due -> {
            PatchedColumns x = Made.with(5, null, -3);
            Made.block(x, 0, 5, MAX, MIN, 5);
            long[] want = {MIN, -3, 5, 5, 5, MAX};
            for (int k = 0; k < want.length; k++) {
                due.is("ranked(0, " + k + ")", x.ranked(0, k), want[k]);
            }
            due.is("the last of 128", Made.full().ranked(0, 127), 127);
            due.is("the first of 128", Made.full().ranked(0, 0), 0);
        }).that("-4294967296: there is none such.", due -> {
            new Twins(due, Made::mixed)
                    .answersEach(Made.ABSENT, "ranked(0, k)", Made.outside(0, 3), (x, k) -> x.ranked(0, k))
                    .answersEach(Made.ABSENT, "ranked(c, 0)", Made.NO_COLUMNS, (x, c) -> x.ranked(c, 0))
                    .answers(Made.ABSENT, "ranked(2, 0)", x -> x.ranked(2, 0))
                    .answers(Made.ABSENT, "gaps don't count", x -> x.ranked(1, 2));
            due.is("the 129th", Made.full().ranked(0, 128), Made.ABSENT);
        });
        said.promise(59).that("How many unlike VALUES a COLUMN has.", due -> {
            PatchedColumns x = Made.with(5, null, -3, 5);
            Made.block(x, 0, -3, MAX, MIN, null);
            due.is("four", x.distinct(0), 4);
            due.is("without blocks", x.distinct(1), 0);
            due.is("gaps", Made.with(null, null).distinct(0), 0);
            due.is("128", Made.full().distinct(0), 128);
            due.is("one", Made.alike(128, 0).distinct(0), 1);
        }).that("NONE for others.", due ->
            new Twins(due, Made::mixed).answersEach(NONE, "distinct", Made.NO_COLUMNS, (x, c) -> x.distinct(c))
        );
        said.promise(60).that("Of a COLUMN the most VALUES one behind the other that are alike", due -> {
            due.is("2", Made.with(5, 4, 4, 5, 6).run(0), 2);
            due.is("1", Made.full().run(0), 1);
            due.is("128, over blocks", Made.alike(128, 3).run(0), 128);
            due.is("the first is the longest", Made.with(1, 1, 1, 2, 2).run(0), 3);
            due.is("0 as well", Made.with(0, 0).run(0), 2);
        }).that("(EMPTY ones aside;", due -> {
            due.is("over gaps", Made.with(5, null, 5, null, null, 5, 4).run(0), 3);
            due.is("gaps aren't alike", Made.with(null, null, null, 5).run(0), 1);
        }).that("0 without VALUES).", due -> {
            due.is("gaps", Made.with(null, null).run(0), 0);
            due.is("without blocks", Made.mixed().run(2), 0);
        }).that("NONE for others.", due ->
            new Twins(due, Made::mixed).answersEach(NONE, "run", Made.NO_COLUMNS, (x, c) -> x.run(c))
        );
    }

    private static PatchedColumns twoAlike() {
        PatchedColumns x = Made.with(5, null, 6);
        Made.block(x, 1, 5);
        Made.block(x, 1, null, 6);
        return x;
    }

    private static void unlikePromises(Sentences said) {
        said.promise(61).that("The first PLACE at which two COLUMNS are unlike", due -> {
            PatchedColumns x = twoAlike();
            x.set(1, 2, 7);
            due.is("the last", x.unlike(0, 1), 2);
            x.set(1, 1, 0);
            due.is("empty and 0", x.unlike(0, 1), 1);
            due.is("the other way", x.unlike(1, 0), 1);
            x.clear(1, 0);
            due.is("the first", x.unlike(0, 1), 0);
        }).that("(just one has it, too).", due -> {
            PatchedColumns x = twoAlike();
            Made.block(x, 1, 9);
            due.is("the second", x.unlike(0, 1), 3);
            due.is("the first", x.unlike(1, 0), 3);
            due.is("one has none", x.unlike(0, 2), 0);
            x.clear(1, 3);
            due.is("an empty one", x.unlike(0, 1), 3);
        }).that("NONE: there is none,", due ->
            new Twins(due, SearchSaid::twoAlike).answers(NONE, "cut otherwise", x -> x.unlike(0, 1))
                    .answers(NONE, "itself", x -> x.unlike(0, 0))
                    .answers(NONE, "without blocks", x -> x.unlike(2, 2))
        ).that("and for others.", due ->
            new Twins(due, Made::mixed)
                    .answersEach(NONE, "unlike(c, 0)", Made.NO_COLUMNS, (x, c) -> x.unlike(c, 0))
                    .answersEach(NONE, "unlike(0, c)", Made.NO_COLUMNS, (x, c) -> x.unlike(0, c))
        );
        said.promise(62).that("Whether two COLUMNS have like PLACES, one by one.", due -> {
            PatchedColumns x = twoAlike();
            due.yes("cut otherwise", x.alike(0, 1));
            due.yes("itself", x.alike(1, 1));
            due.no("with one without blocks", x.alike(0, 2));
            x.set(1, 1, 0);
            due.no("empty and 0", x.alike(0, 1));
            x.clear(1, 1);
            Made.block(x, 1, new Integer[] {null});
            due.no("just one has it", x.alike(0, 1));
            due.no("just one has it", x.alike(1, 0));
            due.yes("both without blocks", new PatchedColumns().alike(0, 2));
        }).that("False for others.", due ->
            new Twins(due, Made::mixed)
                    .answersEach(0, "alike(c, 2)", Made.NO_COLUMNS, (x, c) -> x.alike(c, 2) ? 1 : 0)
                    .answersEach(0, "alike(2, c)", Made.NO_COLUMNS, (x, c) -> x.alike(2, c) ? 1 : 0)
                    .answersEach(0, "alike(c, c)", Made.NO_COLUMNS, (x, c) -> x.alike(c, c) ? 1 : 0)
        );
    }

    private static void ratio(Sentences said) {
        said.promise(63).that("BITS of a COLUMN divided by 32 times its PLACES as doubles: its bits.", due -> {
            due.is("49 of 32", Made.with(5).ratio(0), Double.doubleToLongBits(49.0 / 32.0));
            due.is("55 of 96", Made.with(5, 7, 6).ratio(0), Double.doubleToLongBits(55.0 / 96.0));
            due.is("784 of 4096", Made.alike(128, 3).ratio(0), Double.doubleToLongBits(8 * 49 / 4096.0));
            due.is("114 of 128", Made.wasted().ratio(0), Double.doubleToLongBits(114.0 / 128.0));
            due.is("52 of 96, empty ones too", Made.with(null, 5, null).ratio(0), Double.doubleToLongBits(52.0 / 96.0));
            due.is("51 of 64, no value", Made.with(null, null).ratio(0), Double.doubleToLongBits(51.0 / 64.0));
            for (int width = 0; width <= 32; width++) {
                PatchedColumns x = new Bits().head(1, 0, width, 0, 5).of(0, width).fill().onTape();
                x.open(0);
                due.is("width " + width, x.ratio(0), Double.doubleToLongBits((49.0 + width) / 32.0));
            }
            for (int places = 1; places <= 16; places++) {
                due.is(places + " places", Made.alike(places, 5).ratio(0),
                        Double.doubleToLongBits(49.0 / (32.0 * places)));
            }
        }).that("0 without PLACES,", due ->
            new Twins(due, Made::mixed).answers(0, "ratio", x -> x.ratio(2))
        ).that("and for others.", due ->
            new Twins(due, Made::mixed).answersEach(0, "ratio", Made.NO_COLUMNS, (x, c) -> x.ratio(c))
        );
    }
}
