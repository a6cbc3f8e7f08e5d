/** Terms: what PUT, FLUSHED, .. WALKED are. */
final class ChangeSaid {
    private static final int NONE = Made.NONE;
    private static final int MIN = Made.MIN;
    private static final int MAX = Made.MAX;

    private ChangeSaid() {
    }

    static void tell(Sentences said) {
        said.in(Sentences.TERMS);
        pending(said);
        places(said);
        joined(said);
        cutAnew(said);
        inserted(said);
        removedAndSplit(said);
        shifted(said);
        merged(said);
        copied(said);
        walked(said);
    }

    private static void shows(Due due, String call, PatchedColumns x, int column, String want) {
        due.same(call, Made.shown(x, column), want);
    }

    /** Each block of the column has as few bits as can be. */
    private static void byBest(Due due, PatchedColumns x, int column) {
        due.is("waste", x.column(column, 5), 0);
    }

    private static void pending(Sentences said) {
        said.that("PUT: a VALUE comes behind PENDING;", due -> {
            PatchedColumns x = new PatchedColumns();
            x.put(4);
            x.put(MIN);
            due.is("the first", x.pending(0), 4);
            due.is("the second", x.pending(1), MIN);
        }).that("a GAP: an EMPTY PLACE.", due -> {
            PatchedColumns x = new PatchedColumns();
            x.put(4);
            x.gap();
            due.is("the first", x.pending(0), 4);
            due.is("the second", x.pending(1), Made.EMPTY);
        }).that("FLUSHED: PENDING (one PLACE at least) is a BLOCK more of a COLUMN,", due -> {
            PatchedColumns x = Made.with(1, 2);
            due.is("none is pending", x.flush(0), NONE);
            Made.block(x, 0, new Integer[] {null});
            shows(due, "flush", x, 0, "1 2 | _ |");
        }).that("by BEST; none is PENDING.", due -> {
            PatchedColumns x = new PatchedColumns();
            for (int i = 0; i < 4; i++) {
                x.put(i == 3 ? 1000000 : i * 10);
            }
            due.is("flush", x.flush(0), 49 + 15 + 31);
            due.is("form", x.block(0, 0, 2), 1);
            due.is("width", x.block(0, 0, 3), 5);
            due.is("pending", x.about(0), 0);
            due.is("pending(0)", x.pending(0), Made.ABSENT);
        });
    }

    private static void places(Sentences said) {
        said.that("SET, CLEARED: a PLACE of a COLUMN (counted through its BLOCKS) has another VALUE, "
                + "is EMPTY:", due -> {
            PatchedColumns x = Made.with(1, 2);
            Made.block(x, 0, 3, 4);
            x.set(0, 2, 9);
            shows(due, "set", x, 0, "1 2 | 9 4 |");
            x.clear(0, 1);
            shows(due, "clear", x, 0, "1 _ | 9 4 |");
            x.set(0, 1, 0);
            shows(due, "set an empty one", x, 0, "1 0 | 9 4 |");
        }).that("its BLOCK is told anew by BEST (also if it is so already).", due -> {
            PatchedColumns x = Made.wasted();
            due.is("waste", x.column(0, 5), 7 + 4);
            due.is("set as it is", x.set(0, 1, 10), 52);
            due.is("the other block stays as it is told", x.column(0, 5), 4);
            x = new Bits().masked(2, 2, 0, 9, 0, 7).of(0, 9).fill().onTape();
            x.open(0);
            due.is("waste", x.column(0, 5), 9);
            due.is("clear what is empty", x.clear(0, 1), 51);
            byBest(due, x, 0);
        }).that("DROPPED: a BLOCK is gone.", due -> {
            PatchedColumns x = Made.with(1, 2);
            Made.block(x, 0, 3);
            Made.block(x, 0, 4, 5);
            x.drop(0, 1);
            shows(due, "drop", x, 0, "1 2 | 4 5 |");
            x = Made.wasted();
            x.drop(0, 0);
            shows(due, "drop", x, 0, "7 8 |");
            due.is("the other block stays as it is told", x.column(0, 5), 4);
        });
    }

    private static void joined(Sentences said) {
        said.that("JOINED, a COLUMN: from the first BLOCK on: have it and the next one 16 PLACES or "
                + "fewer together,", due -> {
            PatchedColumns x = Made.alike(16, 5);
            x.split(0, 0, 7);
            due.is("7 and 9", x.join(0), 1);
            due.is("places", x.block(0, 0, 0), 16);
            x = Made.alike(17, 5);
            due.is("16 and 1", x.join(0), 0);
            due.is("blocks", x.column(0, 0), 2);
        }).that("and would one BLOCK of both by BEST have fewer BITS than both have,", due -> {
            // 49 and 88 apart, 49 + 5 * 13 + 23 together: like.
            PatchedColumns x = Made.with(0, 0);
            Made.block(x, 0, Made.WIDE[0], Made.WIDE[1], Made.WIDE[2], Made.WIDE[3]);
            due.is("bits", x.column(0, 3), 137);
            due.is("like bits", x.join(0), 0);
            x.remove(0, 0);
            // 49 + 4 * 13 + 23 together: 13 fewer.
            due.is("fewer bits", x.join(0), 1);
            due.is("bits", x.column(0, 3), 124);
            x = Made.with(0, 0);
            Made.block(x, 0, 0, Made.WIDE[0], Made.WIDE[1], Made.WIDE[2], Made.WIDE[3]);
            // 49 and 49 + 4 * 13 + 23 apart, 49 + 6 * 13 + 23 together: 23 fewer.
            due.is("fewer bits, though wide", x.join(0), 1);
            x = Made.wideAndNarrow(2);
            due.is("more bits", x.join(0), 0);
            // Told with 27 bits for each of two, they have 103: with 49 more, more than together.
            x = new Bits().head(2, 0, 27, 0, 0).parts(27, 0, 0).fill().onTape();
            x.open(0);
            Made.block(x, 0, 1 << 20);
            due.is("bits as they are told", x.column(0, 3), 103 + 49);
            due.is("fewer than both have", x.join(0), 1);
            byBest(due, x, 0);
            // 49 and 88 apart by BEST, 49 + 7 * 13 + 23 together: fewer only than the 177 they are told in.
            x = new Bits().head(4, 0, 32, 0, 0).parts(32, 0, 0, 0, 0).fill().onTape();
            x.open(0);
            Made.block(x, 0, Made.WIDE[0], Made.WIDE[1], Made.WIDE[2], Made.WIDE[3]);
            due.is("bits, wide as they are told", x.column(0, 3), 177 + 88);
            due.is("bits by BEST", x.column(0, 3) - x.column(0, 5), 49 + 88);
            due.is("fewer than both have, more than by BEST", x.join(0), 1);
            due.is("bits together", x.column(0, 3), 49 + 7 * 13 + 23);
            x = Made.with(Made.WIDE[0], Made.WIDE[1], Made.WIDE[2], Made.WIDE[3]);
            x.save(0);
            new Bits().head(4, 0, 32, 0, 0).parts(32, 0, 0, 0, 0).fill().onto(x);
            x.open(0);
            due.is("bits, the next one wide as it is told", x.column(0, 3), 88 + 177);
            due.is("fewer than both have, the next one wide", x.join(0), 1);
            // 49 and 49 + 3 * 12 apart, 49 + 5 * 12 + 24 together: a bit fewer, in as many words.
            x = Made.with(0, 0);
            Made.block(x, 0, 1000000000, 1000002000, 1000000005, 1000001995);
            due.is("bits apart", x.column(0, 3), 134);
            due.is("words apart", x.column(0, 4), 5);
            due.is("a bit fewer", x.join(0), 1);
            due.is("bits then", x.column(0, 3), 133);
            due.is("words then", x.column(0, 4), 5);
        }).that("they are that one, which is looked at with the next one then;", due -> {
            PatchedColumns x = Made.ones(4);
            due.is("four are one", x.join(0), 3);
            shows(due, "join", x, 0, "0 1 2 3 |");
            x = Made.alike(16, 5);
            x.split(0, 0, 8);
            x.split(0, 0, 4);
            Made.block(x, 0, 5);
            due.is("4, 4, 8 are one, with 1 they are too many", x.join(0), 2);
            due.is("the first", x.block(0, 0, 0), 16);
            due.is("the next", x.block(0, 1, 0), 1);
        }).that("else the next one is.", due -> {
            PatchedColumns x = Made.alike(31, 5);
            x.split(0, 1, 8);
            due.is("16 stays; 8 and 7 are one", x.join(0), 1);
            due.is("the first", x.block(0, 0, 0), 16);
            due.is("the next", x.block(0, 1, 0), 15);
            x = new Bits().head(9, 0, 3, 0, 7).parts(3, 0, 0, 0, 0, 0, 0, 0, 0, 0).fill().onTape();
            x.open(0);
            Made.block(x, 0, 7, 7, 7, 7, 7, 7, 7, 7);
            due.is("17 together", x.join(0), 0);
            due.is("what isn't joined stays as it is told", x.column(0, 5), 27);
        });
    }

    private static void cutAnew(Sentences said) {
        said.that("CUT ANEW, a COLUMN: all its PLACES in BLOCKS (24 at most,", due -> {
            PatchedColumns x = Made.wideAndNarrow(24);
            x.copy(0, 0, 32, 0);
            due.is("no room for two more", x.column(0, 0), 24);
            x.copy(0, 0, 96, 1);
            x.copy(0, 0, 32, 1);
            due.is("places", x.column(1, 1), 128);
            // By bits alone it would be 32 blocks with 16 times 137. Three in one have 193, 7 more
            // than apart: four times that is the least that is needed.
            due.is("bits", x.recut(1), 16 * 137 + 4 * 7);
            due.is("blocks", x.column(1, 0), 24);
            due.is("places are all there", x.column(1, 1), 128);
        }).that("each by BEST) with", due -> {
            PatchedColumns x = Made.wasted();
            due.is("recut", x.recut(0), 49 + 4 * 2);
            byBest(due, x, 0);
        }).that("with the fewest BITS in all;", due -> {
            PatchedColumns x = Made.with(0, 0, 0);
            Made.block(x, 0, 0, Made.WIDE[0], Made.WIDE[1], Made.WIDE[2], Made.WIDE[3]);
            due.is("recut", x.recut(0), 49 + 88);
            shows(due, "recut", x, 0, "0 0 0 0 | 1000000000 1000004000 1000000005 1000003995 |");
        }).that("of like ones the fewest BLOCKS;", due -> {
            PatchedColumns x = Made.with(0, 0);
            Made.block(x, 0, Made.WIDE[0], Made.WIDE[1], Made.WIDE[2], Made.WIDE[3]);
            due.is("as many bits", x.recut(0), x.evenly(0, 6));
            due.is("one block", x.column(0, 0), 1);
        }).that("then with the first one as short as can be,", due -> {
            PatchedColumns x = Made.alike(17, 3);
            due.is("recut", x.recut(0), 98);
            due.is("first", x.block(0, 0, 0), 1);
            due.is("second", x.block(0, 1, 0), 16);
        }).that("then the next one, and so on.", due -> {
            PatchedColumns x = Made.alike(20, 0);
            Made.block(x, 0, Made.WIDE[0], Made.WIDE[1], Made.WIDE[2], Made.WIDE[3]);
            x.copy(0, 0, 20, 0);
            due.is("recut", x.recut(0), 4 * 49 + 88);
            int[] want = {4, 16, 4, 4, 16};
            due.is("blocks", x.column(0, 0), want.length);
            for (int i = 0; i < want.length; i++) {
                due.is("block " + i, x.block(0, i, 0), want[i]);
            }
        });
    }

    private static void inserted(Sentences said) {
        said.that("INSERTED: a VALUE comes ahead of a PLACE", due -> {
            PatchedColumns x = Made.with(1, 2);
            Made.block(x, 0, 3, null);
            x.insert(0, 0, 9);
            shows(due, "ahead of the first", x, 0, "9 1 2 | 3 _ |");
            x.insert(0, 3, 8);
            shows(due, "ahead of a block's first", x, 0, "9 1 2 | 8 3 _ |");
            x.insert(0, 5, 7);
            shows(due, "ahead of an empty one", x, 0, "9 1 2 | 8 3 7 _ |");
        }).that("(or behind the last one: into the last BLOCK):", due -> {
            PatchedColumns x = Made.with(1, 2);
            Made.block(x, 0, 3);
            x.insert(0, 3, 9);
            shows(due, "behind the last one", x, 0, "1 2 | 3 9 |");
        }).that("the BLOCK has a PLACE more;", due -> {
            PatchedColumns x = Made.wasted();
            due.is("bits", x.insert(0, 2, 7), 59 + 52);
            due.is("the first", x.block(0, 0, 0), 2);
            due.is("the second", x.block(0, 1, 0), 3);
            due.is("told by BEST, the other as it is told", x.column(0, 5), 7);
            x = Made.alike(15, 3);
            x.insert(0, 15, 3);
            due.is("16 are one", x.column(0, 0), 1);
        }).that("has it 17 then, it is two, of 8 and of 9 PLACES (each by BEST);", due -> {
            for (int place = 0; place <= 16; place++) {
                PatchedColumns x = Made.alike(16, 3);
                Made.block(x, 0, 3);
                x.remove(0, 16);
                due.is("insert at " + place, x.insert(0, place, 4), place < 8 ? bitsOf(8, place) + 49
                        : 49 + bitsOf(9, place - 8));
                due.is("blocks", x.column(0, 0), 2);
                due.is("of 8", x.block(0, 0, 0), 8);
                due.is("of 9", x.block(0, 1, 0), 9);
                due.is("there it is", x.value(0, place), 4);
                byBest(due, x, 0);
            }
        }).that("it can be only if the COLUMN has room.", due -> {
            new Twins(due, Made::full).answers(NONE, "insert the 129th", x -> x.insert(0, 5, 1));
            PatchedColumns y = Made.full();
            y.remove(0, 0);
            for (int place : new int[] {0, 64, 126, 127}) {
                due.yes("the 128th, at " + place, y.insert(0, place, 0) > 0);
                due.is("there it is", y.value(0, place), 0);
                y.undo();
            }
            y = ofSixteenBehindOnes();
            due.is("blocks", y.column(0, 0), 24);
            due.yes("24 blocks, one of them of one place", y.insert(0, 22, 5) > 0);
            y.undo();
            y.drop(0, 0);
            due.yes("23 blocks, one of 16", y.insert(0, 22, 5) > 0);
            due.is("24 blocks then", y.column(0, 0), 24);
            new Twins(due, ChangeSaid::ofSixteenBehindOnes)
                    .answers(NONE, "24 blocks, one of 16", x -> x.insert(0, 23, 5))
                    .answers(NONE, "24 blocks, behind one of 16", x -> x.insert(0, 39, 5));
        });
    }

    /** Bits of so many 3s with a 4 at a place. */
    private static int bitsOf(int places, int four) {
        // By form 0 a bit for each; by form 1, a part fewer: 2 bits for each up, down.
        // Or one exception of 36 bits, which is more than either.
        return 49 + (four == 0 ? places - 1 : places);
    }

    private static PatchedColumns ofSixteenBehindOnes() {
        PatchedColumns x = Made.ones(23);
        for (int i = 0; i < 16; i++) {
            x.put(0);
        }
        x.flush(0);
        return x;
    }

    private static void removedAndSplit(Sentences said) {
        said.that("REMOVED: a PLACE is gone;", due -> {
            PatchedColumns x = Made.with(1, null, 2);
            Made.block(x, 0, 3, 4);
            x.remove(0, 1);
            shows(due, "an empty one", x, 0, "1 2 | 3 4 |");
            x.remove(0, 2);
            shows(due, "a block's first", x, 0, "1 2 | 4 |");
        }).that("a BLOCK without PLACES, too;", due -> {
            PatchedColumns x = Made.with(1);
            Made.block(x, 0, 2, 3);
            Made.block(x, 0, 4);
            x.remove(0, 3);
            shows(due, "the last block", x, 0, "1 | 2 3 |");
            x.remove(0, 0);
            shows(due, "the first block", x, 0, "2 3 |");
            due.is("it has its own bits yet", x.column(0, 3), 51);
            x = Made.ones(24);
            x.remove(0, 7);
            due.is("blocks", x.column(0, 0), 23);
            x.put(1);
            due.is("there is room for one", x.flush(0), 49);
        }).that("else it is told by BEST.", due -> {
            PatchedColumns x = Made.wasted();
            due.is("remove", x.remove(0, 1), 49 + 55);
            due.is("the other as it is told", x.column(0, 5), 4);
        }).that("SPLIT: a BLOCK is two, the first one with n PLACES (1 .. its PLACES less 1),", due -> {
            PatchedColumns x = Made.with(1, 2, 3, 4);
            x.split(0, 0, 1);
            shows(due, "by 1", x, 0, "1 | 2 3 4 |");
            x = Made.with(1, 2, 3, 4);
            Made.block(x, 0, 5, 6);
            x.split(0, 0, 3);
            shows(due, "by 3", x, 0, "1 2 3 | 4 | 5 6 |");
            x.split(0, 2, 1);
            shows(due, "the last one", x, 0, "1 2 3 | 4 | 5 | 6 |");
            new Twins(due, () -> Made.with(1, 2, 3, 4))
                    .answersEach(NONE, "split by", Made.outside(1, 3), (y, n) -> y.split(0, 0, n));
            new Twins(due, () -> Made.with(1))
                    .answersEach(NONE, "split one by", new int[] {0, 1, 2}, (y, n) -> y.split(0, 0, n));
        }).that("each by BEST. SHIFTED:", due -> {
            PatchedColumns x = new Bits().head(3, 0, 9, 0, 7).parts(9, 0, 1, 0).fill().onTape();
            x.open(0);
            due.is("bits as told", x.column(0, 3), 49 + 27);
            due.is("split", x.split(0, 0, 1), 49 + 50);
            byBest(due, x, 0);
            x = Made.wasted();
            due.is("split one of two", x.split(0, 0, 1), 49 + 49);
            due.is("the other block stays as it is told", x.column(0, 5), 4);
        });
    }

    private static void shifted(Sentences said) {
        said.that("all VALUES of a COLUMN are more by a number", due -> {
            PatchedColumns x = Made.with(1, null, -2);
            Made.block(x, 0, 4);
            x.shift(0, 5);
            shows(due, "by 5", x, 0, "6 _ 3 | 9 |");
            x.shift(0, -10);
            shows(due, "by -10", x, 0, "-4 _ -7 | -1 |");
            x = Made.full();
            x.shift(0, 1000);
            for (int i = 0; i < 128; i++) {
                due.is("each of 128", x.value(0, i), 1000 + i);
            }
        }).that("(going round), each BLOCK by BEST.", due -> {
            PatchedColumns x = Made.with(MAX, MIN, 0);
            x.shift(0, 1);
            shows(due, "by 1", x, 0, MIN + " " + (MIN + 1) + " 1 |");
            x.shift(0, -1);
            shows(due, "by -1", x, 0, MAX + " " + MIN + " 0 |");
            x.shift(0, MIN);
            shows(due, "by MIN", x, 0, "-1 0 " + MIN + " |");
            x = Made.wasted();
            due.is("by 0", x.shift(0, 0), 52 + 51);
            byBest(due, x, 0);
        });
    }

    private static PatchedColumns halves(int one, int other) {
        PatchedColumns x = Made.alike(one, 3);
        x.swap(0, 1);
        for (int i = 1; i <= other; i++) {
            x.put(4);
            if (i % 16 == 0 || i == other) {
                x.flush(0);
            }
        }
        return x;
    }

    private static void merged(Sentences said) {
        said.that("MERGED: the VALUES of two SORTED COLUMNS", due -> {
            PatchedColumns x = Made.with(1, null, 5, 5);
            Made.block(x, 1, MIN, 5);
            Made.block(x, 1, null, MAX);
            x.merge(0, 1, 2);
            shows(due, "merge", x, 2, MIN + " 1 5 5 5 " + MAX + " |");
            shows(due, "the first stays", x, 0, "1 _ 5 5 |");
            shows(due, "the second stays", x, 1, MIN + " 5 | _ " + MAX + " |");
        }).that("(like or unlike) by size are a COLUMN's,", due -> {
            PatchedColumns x = Made.with(1, 5, null);
            x.merge(0, 0, 2);
            shows(due, "like ones", x, 2, "1 1 5 5 |");
            x.merge(0, 2, 0);
            shows(due, "into the first", x, 0, "1 1 1 5 5 5 |");
            x.merge(2, 0, 0);
            shows(due, "into the second", x, 0, "1 1 1 1 1 5 5 5 5 5 |");
        }).that("in place of all it had: BLOCKS of 16, the last one of what is left, each by BEST", due -> {
            PatchedColumns x = Made.ones(20);
            Made.block(x, 2, 77, 1);
            due.is("merge", x.merge(0, 1, 2), 20);
            due.is("blocks", x.column(2, 0), 2);
            due.is("of 16", x.block(2, 0, 0), 16);
            due.is("of 4", x.block(2, 1, 0), 4);
            due.is("the first value", x.value(2, 0), 0);
            byBest(due, x, 2);
            x.merge(1, 1, 2);
            due.is("nothing", x.column(2, 0), 0);
            x = Made.alike(16, 1);
            x.merge(0, 1, 1);
            due.is("16 are one", x.column(1, 0), 1);
        }).that("(128 at most in all).", due -> {
            PatchedColumns x = halves(64, 64);
            due.is("64 and 64", x.merge(0, 1, 2), 128);
            due.is("blocks", x.column(2, 0), 8);
            new Twins(due, () -> halves(65, 64)).answers(NONE, "65 and 64", y -> y.merge(0, 1, 2));
            x = halves(65, 64);
            x.clear(0, 0);
            due.is("an empty one isn't taken", x.merge(0, 1, 2), 128);
        });
    }

    private static void copied(Sentences said) {
        said.that("COPIED: PLACES of a COLUMN from one on to another one (this not)", due -> {
            PatchedColumns x = Made.with(1, null, 3);
            Made.block(x, 0, 4, 5);
            x.copy(0, 1, 4, 1);
            shows(due, "copy", x, 1, "_ 3 4 |");
            shows(due, "it stays", x, 0, "1 _ 3 | 4 5 |");
            x.copy(0, 4, 5, 1);
            shows(due, "the last one", x, 1, "_ 3 4 | 5 |");
        }).that("come behind all of a COLUMN (like or unlike),", due -> {
            PatchedColumns x = Made.with(1, 2);
            Made.block(x, 1, 9);
            x.copy(0, 0, 1, 1);
            shows(due, "unlike", x, 1, "9 | 1 |");
            x.copy(0, 0, 2, 0);
            shows(due, "like", x, 0, "1 2 | 1 2 |");
            x = Made.wasted();
            x.copy(0, 0, 4, 0);
            due.is("what was there stays as it is told", x.column(0, 5), 11);
        }).that("in BLOCKS of 16, the last one of what is left, each by BEST;", due -> {
            PatchedColumns x = Made.full();
            due.is("33", x.copy(0, 10, 43, 1), 3);
            due.is("of 16", x.block(1, 0, 0), 16);
            due.is("of 16", x.block(1, 1, 0), 16);
            due.is("of 1", x.block(1, 2, 0), 1);
            due.is("16", x.copy(0, 0, 16, 1), 1);
            x = Made.wasted();
            x.copy(0, 0, 2, 1);
            byBest(due, x, 1);
        }).that("it can be only if that has room.", due -> {
            PatchedColumns x = Made.full();
            x.copy(0, 0, 100, 1);
            due.is("to 128 places", x.copy(0, 0, 28, 1), 2);
            new Twins(due, ChangeSaid::hundredMore).answers(NONE, "to 129", y -> y.copy(0, 0, 29, 1));
            x = onesAndMore();
            due.is("to 24 blocks", x.copy(1, 0, 16, 0), 1);
            due.is("to 24 blocks, from far behind", onesAndMore().copy(1, 16, 17, 0), 1);
            new Twins(due, ChangeSaid::onesAndMore).answers(NONE, "to 25", y -> y.copy(1, 0, 17, 0));
        });
    }

    private static PatchedColumns hundredMore() {
        PatchedColumns x = Made.full();
        x.copy(0, 0, 100, 1);
        return x;
    }

    private static PatchedColumns onesAndMore() {
        PatchedColumns x = Made.ones(23);
        x.walk(1, 0, 0, 17);
        return x;
    }

    private static void walked(Sentences said) {
        said.that("WALKED, n VALUES (1 .. 48) into a COLUMN,", due -> {
            PatchedColumns x = new PatchedColumns();
            due.is("1", x.walk(0, 5, 9, 1), 1);
            due.is("places", x.column(0, 1), 1);
            due.is("48", x.walk(0, 5, 9, 48), 3);
            due.is("places", x.column(0, 1), 49);
            due.is("values", x.column(0, 2), 49);
            new Twins(due, Made::mixed)
                    .answersEach(NONE, "walk", Made.outside(1, 48), (y, n) -> y.walk(0, 0, 0, n));
        }).that("from a VALUE, by a SPREAD (0 .. 99999):", due -> {
            PatchedColumns x = new PatchedColumns();
            due.is("0", x.walk(0, 5, 0, 2), 1);
            shows(due, "it stays", x, 0, "5 5 |");
            x.tell(0);
            due.is("99999", x.walk(1, 5, 99999, 1), 1);
            due.is("far below", x.value(1, 0), 5 + 593 - 99999);
            new Twins(due, Made::mixed)
                    .answersEach(NONE, "spread", Made.outside(0, 99999), (y, s) -> y.walk(0, 0, s, 1));
        }).that("each time X is (X * 857 + 593) mod 29989,", due -> {
            PatchedColumns x = new PatchedColumns();
            x.walk(0, 0, 0, 1);
            due.is("from 647", x.about(3), (647 * 857 + 593) % 29989);
            x.tell(0);
            x.walk(0, 0, 0, 1);
            due.is("from 0", x.about(3), 593);
            x.tell(29988);
            x.walk(0, 0, 0, 1);
            // 29988 is 1 below what it goes round at.
            due.is("from 29988", x.about(3), 29989 + 593 - 857);
            x.tell(0);
            x.walk(0, 0, 0, 2);
            due.is("twice from 0", x.about(3), (593 * 857 + 593) % 29989);
        }).that("the VALUE is more by X mod (2 SPREAD and 1) less SPREAD (going round), and comes;", due -> {
            PatchedColumns x = new PatchedColumns();
            x.tell(0);
            // 593 mod 3 is 2; then X is 593 * 858 mod 29989, 28970, and mod 3 that is 2 again.
            x.walk(0, 10, 1, 2);
            shows(due, "by 1 each", x, 0, "11 12 |");
            x.tell(0);
            x.walk(1, MAX, 1, 1);
            due.is("going round upward", x.value(1, 0), MIN);
            x.tell(0);
            // 593 mod 593 is 0: less 296.
            x.walk(1, MIN, 296, 1);
            due.is("going round downward", x.value(1, 1), MAX - 295);
        }).that("and comes; BLOCKS of 16, the last one of what is left, each by BEST", due -> {
            PatchedColumns x = Made.with(1);
            due.is("33", x.walk(0, 0, 50, 33), 3);
            int[] want = {1, 16, 16, 1};
            for (int i = 0; i < want.length; i++) {
                due.is("block " + i, x.block(0, i, 0), want[i]);
            }
            byBest(due, x, 0);
            due.is("32", x.walk(1, 0, 50, 32), 2);
            x = Made.wasted();
            x.walk(0, 0, 50, 5);
            due.is("what was there stays as it is told", x.column(0, 5), 11);
        }).that("(PENDING stays as it is).", due -> {
            PatchedColumns x = new PatchedColumns();
            x.put(4);
            x.gap();
            x.walk(0, 0, 5, 20);
            due.is("pending", x.about(0), 2);
            due.is("the first", x.pending(0), 4);
            due.is("the second", x.pending(1), Made.EMPTY);
        }).that("It can be only if the COLUMN has room.", due -> {
            PatchedColumns x = Made.alike(100, 1);
            due.is("to 128", x.walk(0, 0, 0, 28), 2);
            new Twins(due, () -> Made.alike(100, 1)).answers(NONE, "to 129", y -> y.walk(0, 0, 0, 29));
            x = Made.ones(23);
            due.is("to 24 blocks", x.walk(0, 0, 0, 16), 1);
            new Twins(due, () -> Made.ones(23)).answers(NONE, "to 25", y -> y.walk(0, 0, 0, 17));
        });
    }
}
