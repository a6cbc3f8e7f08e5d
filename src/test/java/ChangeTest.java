/** Promises 6 to 19: what changes columns, and X. */
final class ChangeTest {
    private static final Due due = new Due();

    public static void main(String[] args) {
        set();
        clear();
        insert();
        insertIntoSeventeen();
        insertWithoutRoom();
        remove();
        split();
        shift();
        merge();
        copy();
        swap();
        drop();
        join();
        likeBits();
        joinGoesOn();
        recut();
        recutTies();
        recutKeepsTo24();
        walk();
        walkGoesRound();
        tell();
        due.end("ChangeTest");
    }

    private static void shows(String call, PatchedColumns x, int column, String want) {
        String got = Made.shown(x, column);
        due.yes(call + " leaves " + got + ", due is " + want, got.equals(want));
    }

    private static void steps(String call, PatchedColumns x, int want) {
        due.is(call + ": steps", x.about(1), want);
    }

    private static void set() {
        PatchedColumns x = Made.with(5, 7, 6);
        Made.block(x, 0, 1, 1);
        due.is("set", x.set(0, 4, 3), 49 + 3);
        shows("set", x, 0, "5 7 6 | 1 3 |");
        due.is("set a place of the first block", x.set(0, 0, 8), 51);
        shows("set", x, 0, "8 7 6 | 1 3 |");
        steps("set", x, 4);
        due.is("set as it is", x.set(0, 0, 8), 51);
        steps("set as it is", x, 5);
        due.is("set behind the end", x.set(0, 5, 1), Made.NONE);
        due.is("set(0, -1)", x.set(0, -1, 1), Made.NONE);
        due.is("set(1, 0)", x.set(1, 0, 1), Made.NONE);
        for (int c : Made.NO_COLUMNS) {
            due.is("set in " + c, x.set(c, 0, 1), Made.NONE);
        }
        steps("set that can't be", x, 5);
        x = Made.with(1, null, 3);
        due.is("set an empty place", x.set(0, 1, 2), 49 + 4);
        shows("set", x, 0, "1 2 3 |");
        // Told by width 5 on the tape: setting it as it is tells it by BEST.
        Made.words(x, 1 | 5 << 7, 2 << 22);
        due.is("opened", x.open(0), 2);
        due.is("bits as told", x.block(0, 0, 5), 59);
        due.is("set as it is, by BEST", x.set(0, 0, 0), 49 + 3);
    }

    private static void clear() {
        PatchedColumns x = Made.with(5, 7, 6);
        due.is("clear", x.clear(0, 1), 49 + 3 + 2);
        shows("clear", x, 0, "5 _ 6 |");
        due.is("clear again", x.clear(0, 1), 54);
        steps("clear again", x, 3);
        due.is("clear the next", x.clear(0, 0), 52);
        due.is("clear the last", x.clear(0, 2), 52);
        shows("clear all", x, 0, "_ _ _ |");
        due.is("base of none", x.base(0, 0, 0), 0);
        due.is("clear(0, 3)", x.clear(0, 3), Made.NONE);
        due.is("clear(0, -1)", x.clear(0, -1), Made.NONE);
        for (int c : Made.NO_COLUMNS) {
            due.is("clear in " + c, x.clear(c, 0), Made.NONE);
        }
        steps("clear that can't be", x, 5);
    }

    private static void insert() {
        PatchedColumns x = new PatchedColumns();
        due.is("insert without a block", x.insert(0, 0, 1), Made.NONE);
        x = Made.with(1, 2);
        Made.block(x, 0, 5, 5);
        due.is("insert at 0", x.insert(0, 0, 0), 49 + 2 * 3 - 2 + 49);
        shows("insert at 0", x, 0, "0 1 2 | 5 5 |");
        x.insert(0, 3, 5);
        shows("insert ahead of a block's first place", x, 0, "0 1 2 | 5 5 5 |");
        due.is("insert behind the last one", x.insert(0, 6, 5), 53 + 49);
        shows("insert behind", x, 0, "0 1 2 | 5 5 5 5 |");
        due.is("insert at 8", x.insert(0, 8, 5), Made.NONE);
        due.is("insert at -1", x.insert(0, -1, 5), Made.NONE);
        due.is("insert at MAX", x.insert(0, Made.MAX, 5), Made.NONE);
        for (int c : Made.NO_COLUMNS) {
            due.is("insert in " + c, x.insert(c, 0, 1), Made.NONE);
        }
        steps("insert", x, 5);
    }

    private static void insertIntoSeventeen() {
        PatchedColumns x = new PatchedColumns();
        for (int i = 0; i < 16; i++) {
            x.put(i);
        }
        x.flush(0);
        Made.block(x, 0, 99);
        x.insert(0, 2, 50);
        shows("17 places", x, 0, "0 1 50 2 3 4 5 6 | 7 8 9 10 11 12 13 14 15 | 99 |");
        x.undo();
        x.insert(0, 16, 50);
        shows("into the one behind", x, 0, "0 1 2 3 4 5 6 7 8 9 10 11 12 13 14 15 | 50 99 |");
        x = new PatchedColumns();
        for (int i = 0; i < 16; i++) {
            x.put(i);
        }
        x.flush(0);
        x.remove(0, 0);
        x.insert(0, 0, 0);
        shows("16 places are one block", x, 0, "0 1 2 3 4 5 6 7 8 9 10 11 12 13 14 15 |");
        x.insert(0, 16, 50);
        shows("behind the last of 16", x, 0, "0 1 2 3 4 5 6 7 | 8 9 10 11 12 13 14 15 50 |");
    }

    private static void insertWithoutRoom() {
        PatchedColumns x = Made.full();
        due.is("insert the 129th", x.insert(0, 0, 1), Made.NONE);
        x = Made.ones(23);
        for (int i = 0; i < 16; i++) {
            x.put(0);
        }
        x.flush(0);
        due.is("24 blocks, one of 1", x.insert(0, 3, 3) > 0 ? 1 : 0, 1);
        due.is("24 blocks, one of 16", x.insert(0, 24, 3), Made.NONE);
        due.is("24 blocks, behind one of 16", x.insert(0, 40, 3), Made.NONE);
    }

    private static void remove() {
        PatchedColumns x = Made.with(1, null, 3);
        Made.block(x, 0, 9);
        due.is("remove an empty one", x.remove(0, 1), 49 + 3 + 49);
        shows("remove", x, 0, "1 3 | 9 |");
        due.is("remove a block's only one", x.remove(0, 2), 52);
        shows("remove", x, 0, "1 3 |");
        due.is("remove(0, 2)", x.remove(0, 2), Made.NONE);
        due.is("remove(0, -1)", x.remove(0, -1), Made.NONE);
        due.is("remove", x.remove(0, 0), 49);
        due.is("remove the last", x.remove(0, 0), 0);
        due.is("remove of none", x.remove(0, 0), Made.NONE);
        for (int c : Made.NO_COLUMNS) {
            due.is("remove in " + c, x.remove(c, 0), Made.NONE);
        }
        steps("remove", x, 6);
        x.undo();
        shows("undone", x, 0, "3 |");
        x = Made.with(1);
        Made.block(x, 0, 2, 2);
        Made.block(x, 0, 3);
        x.remove(0, 0);
        shows("remove the first block", x, 0, "2 2 | 3 |");
        due.is("its bits go along", x.block(0, 0, 0), 2);
    }

    private static void split() {
        PatchedColumns x = Made.with(1, 1, 9, 9);
        Made.block(x, 0, 7);
        due.is("split", x.split(0, 0, 2), 98);
        shows("split", x, 0, "1 1 | 9 9 | 7 |");
        PatchedColumns y = Made.with(1, 1, 3, 4, 6);
        due.is("split in unlike ones", y.split(0, 0, 2), 49 + 49 + 2 * 3);
        due.is("split a single place", x.split(0, 2, 1), Made.NONE);
        due.is("split(0, 1, 0)", x.split(0, 1, 0), Made.NONE);
        due.is("split(0, 1, 2)", x.split(0, 1, 2), Made.NONE);
        due.is("split(0, 1, -1)", x.split(0, 1, -1), Made.NONE);
        due.is("split(0, 3, 1)", x.split(0, 3, 1), Made.NONE);
        due.is("split(0, -1, 1)", x.split(0, -1, 1), Made.NONE);
        for (int c : Made.NO_COLUMNS) {
            due.is("split in " + c, x.split(c, 0, 1), Made.NONE);
        }
        steps("split", x, 3);
        x = Made.ones(23);
        Made.block(x, 0, 1, 2);
        due.is("split with 24 blocks", x.split(0, 23, 1), Made.NONE);
        x.drop(0, 0);
        due.is("split with 23 blocks", x.split(0, 22, 1), 98);
        due.is("24 blocks", x.column(0, 0), 24);
    }

    private static void shift() {
        PatchedColumns x = Made.with(Made.MAX, null, 1);
        Made.block(x, 0, 4);
        due.is("shift", x.shift(0, 2), x.column(0, 3));
        shows("shift", x, 0, "-2147483647 _ 3 | 6 |");
        due.is("shift nothing", x.shift(1, 2), 0);
        steps("shift", x, 4);
        for (int c : Made.NO_COLUMNS) {
            due.is("shift in " + c, x.shift(c, 1), Made.NONE);
        }
        Made.words(x, 1 | 5 << 7, 2 << 22);
        x.open(1);
        PatchedColumns all = Made.full();
        due.is("shift all 128", all.shift(0, 1), all.column(0, 3));
        due.is("the last one", all.value(0, 127), 128);
        due.is("shift by 0 tells by BEST", x.shift(1, 0), 52);
    }

    private static void merge() {
        PatchedColumns x = Made.with(1, 5, null, 5);
        Made.block(x, 1, 2, 5, 9);
        Made.block(x, 2, 77);
        due.is("merge", x.merge(0, 1, 2), 6);
        shows("merge", x, 2, "1 2 5 5 5 9 |");
        due.is("merge into one of them", x.merge(0, 1, 0), 6);
        shows("merge into one of them", x, 0, "1 2 5 5 5 9 |");
        due.is("merge with itself", x.merge(1, 1, 1), 6);
        shows("merge with itself", x, 1, "2 2 5 5 9 9 |");
        steps("merge", x, 6);
        Made.block(x, 1, 0);
        due.is("merge with one unsorted", x.merge(0, 1, 2), Made.NONE);
        due.is("merge with one unsorted", x.merge(1, 0, 2), Made.NONE);
        due.is("merge into the unsorted one", x.merge(0, 0, 1), 12);
        for (int c : Made.NO_COLUMNS) {
            due.is("merge of " + c, x.merge(c, 0, 0), Made.NONE);
            due.is("merge with " + c, x.merge(0, c, 0), Made.NONE);
            due.is("merge into " + c, x.merge(0, 0, c), Made.NONE);
        }
        x = Made.full();
        due.is("merge to 128", x.merge(0, 1, 2), 128);
        due.is("in 8 blocks", x.column(2, 0), 8);
        Made.block(x, 1, 5);
        due.is("merge to 129", x.merge(0, 1, 2), Made.NONE);
        x.clear(1, 0);
        due.is("an empty place doesn't count", x.merge(0, 1, 2), 128);
        x = Made.ones(20);
        due.is("merge 20 blocks", x.merge(0, 1, 0), 20);
        due.is("16 places first", x.block(0, 0, 0), 16);
        due.is("then 4", x.block(0, 1, 0), 4);
    }

    private static void copy() {
        PatchedColumns x = Made.with(1, null, 3);
        Made.block(x, 0, 4, 5);
        due.is("copy", x.copy(0, 1, 4, 1), 1);
        shows("copy", x, 1, "_ 3 4 |");
        due.is("copy behind itself", x.copy(0, 0, 5, 0), 1);
        shows("copy behind itself", x, 0, "1 _ 3 | 4 5 | 1 _ 3 4 5 |");
        steps("copy", x, 4);
        due.is("from is to", x.copy(0, 2, 2, 1), Made.NONE);
        due.is("from above to", x.copy(0, 3, 2, 1), Made.NONE);
        due.is("from below 0", x.copy(0, -1, 2, 1), Made.NONE);
        due.is("to behind the end", x.copy(0, 0, 11, 1), Made.NONE);
        due.is("from MIN to MAX", x.copy(0, Made.MIN, Made.MAX, 1), Made.NONE);
        for (int c : Made.NO_COLUMNS) {
            due.is("copy of " + c, x.copy(c, 0, 1, 0), Made.NONE);
            due.is("copy into " + c, x.copy(0, 0, 1, c), Made.NONE);
        }
        x = Made.full();
        due.is("copy 17", x.copy(0, 100, 117, 1), 2);
        due.is("16 and", x.block(1, 0, 0), 16);
        due.is("one", x.block(1, 1, 0), 1);
        due.is("copy to 129 places", x.copy(0, 0, 112, 1), Made.NONE);
        due.is("copy to 128 places", x.copy(0, 0, 111, 1), 7);
        x = Made.ones(23);
        x.copy(0, 0, 23, 1);
        due.is("one block more, from far behind", x.copy(1, 20, 23, 0), 1);
        x = Made.ones(23);
        Made.block(x, 1, 1, 2, 3, 4, 5, 6, 7, 8, 9, 10, 11, 12, 13, 14, 15, 16);
        Made.block(x, 1, 1);
        due.is("copy the 25th block", x.copy(1, 0, 17, 0), Made.NONE);
        due.is("copy the 24th block", x.copy(1, 0, 16, 0), 1);
    }

    private static void swap() {
        PatchedColumns x = Made.with(1, 2);
        Made.block(x, 1, 9);
        due.yes("swap", x.swap(0, 1));
        shows("swap", x, 0, "9 |");
        shows("swap", x, 1, "1 2 |");
        steps("swap", x, 3);
        due.no("swap alike", x.swap(2, 2));
        for (int c : Made.NO_COLUMNS) {
            due.no("swap " + c, x.swap(c, 0));
            due.no("swap with " + c, x.swap(0, c));
            due.no("swap alike " + c, x.swap(c, c));
        }
        steps("swap that can't be", x, 3);
        x.set(0, 0, 4);
        shows("set behind swap", x, 0, "4 |");
        shows("set behind swap", x, 1, "1 2 |");
        due.is("undo set", x.undo(), 3);
        due.is("undo swap", x.undo(), 2);
        shows("undo", x, 0, "1 2 |");
        shows("undo", x, 1, "9 |");
    }

    private static void drop() {
        PatchedColumns x = Made.with(1, 2);
        Made.block(x, 0, 3, null, 5);
        Made.block(x, 0, 6);
        due.is("drop", x.drop(0, 1), 3);
        shows("drop", x, 0, "1 2 | 6 |");
        due.is("drop(0, 2)", x.drop(0, 2), Made.NONE);
        due.is("drop(0, -1)", x.drop(0, -1), Made.NONE);
        due.is("drop", x.drop(0, 1), 1);
        due.is("drop", x.drop(0, 0), 2);
        due.is("drop of none", x.drop(0, 0), Made.NONE);
        for (int c : Made.NO_COLUMNS) {
            due.is("drop in " + c, x.drop(c, 0), Made.NONE);
        }
        steps("drop", x, 6);
    }

    private static void join() {
        PatchedColumns x = Made.with(1, 1);
        Made.block(x, 0, 1, 1);
        Made.block(x, 0, null, null);
        due.is("join", x.join(0), 2);
        shows("join", x, 0, "1 1 1 1 _ _ |");
        steps("join", x, 4);
        due.is("join again", x.join(0), 0);
        steps("join again", x, 5);
        due.is("join of none", x.join(1), 0);
        steps("join of none", x, 6);
        for (int c : Made.NO_COLUMNS) {
            due.is("join " + c, x.join(c), Made.NONE);
        }
        x = new PatchedColumns();
        Made.block(x, 0, 1, 1, 1, 1, 1, 1, 1, 1, 1);
        Made.block(x, 0, 1, 1, 1, 1, 1, 1, 1, 1);
        due.is("17 together", x.join(0), 0);
        x.remove(0, 0);
        due.is("16 together", x.join(0), 1);
        // 4 of width 0, and 4 whose three differences are folded into 13 bits each.
        x = Made.wideAndNarrow(2);
        due.is("apart", x.column(0, 3), 49 + 49 + 3 * 13);
        due.is("no fewer together", x.join(0), 0);
        shows("no fewer together", x, 0, "0 0 0 0 | 1000000000 1000004000 1000000005 1000003995 |");
    }

    private static void likeBits() {
        // 49 and 88 apart, 49 + 5 * 13 + 23 together: just as many.
        PatchedColumns x = Made.with(0, 0);
        Made.block(x, 0, 1000000000, 1000004000, 1000000005, 1000003995);
        due.is("apart", x.column(0, 3), 137);
        due.is("no fewer together, so they stay apart", x.join(0), 0);
        due.is("recut", x.recut(0), 137);
        due.is("of like ones the fewest blocks", x.column(0, 0), 1);
    }

    private static void joinGoesOn() {
        PatchedColumns x = Made.wideAndNarrow(2);
        x.split(0, 1, 1);
        // 4 and 1 are 85 together and 98 apart; then 5 and 3 are 163 together and 160 apart.
        due.is("bits", x.column(0, 3), 49 + 49 + 49 + 2 * 13);
        due.is("the first two join, then no more", x.join(0), 1);
        due.is("bits", x.column(0, 3), 85 + 75);
        x = Made.ones(4);
        due.is("one is looked at with the next one again", x.join(0), 3);
        shows("join", x, 0, "0 1 2 3 |");
        x = Made.with(0, 0);
        Made.block(x, 0, 1, 1, 1, 1, 1, 1, 1, 1, 1, 1, 1, 1, 1, 1, 1);
        Made.block(x, 0, 1);
        due.is("the first stays, the next two join", x.join(0), 1);
        due.is("first", x.block(0, 0, 0), 2);
        due.is("second", x.block(0, 1, 0), 16);
        x = new PatchedColumns();
        Made.words(x, 1 | 27 << 7, 0, 0, 0);
        due.is("opened", x.open(0), 2);
        due.is("as told", x.column(0, 3), 49 + 54);
        Made.block(x, 0, 7);
        due.is("fewer than both as they are told", x.join(0), 1);
    }

    private static void recut() {
        PatchedColumns x = new PatchedColumns();
        due.is("recut of none", x.recut(0), Made.NONE);
        for (int c : Made.NO_COLUMNS) {
            due.is("recut " + c, x.recut(c), Made.NONE);
        }
        steps("recut of none", x, 0);
        x = Made.with(0, 0, 0);
        Made.block(x, 0, 0, 1000000000, 1000004000, 1000000005, 1000003995);
        due.is("recut", x.recut(0), 137);
        shows("recut", x, 0, "0 0 0 0 | 1000000000 1000004000 1000000005 1000003995 |");
        steps("recut", x, 3);
        due.is("recut again", x.recut(0), 137);
        steps("recut again", x, 4);
        x.set(0, 4, 0);
        due.is("recut what has changed", x.recut(0), 49 + 49 + 2 * 13);
        shows("recut what has changed", x, 0, "0 0 0 0 0 | 1000004000 1000000005 1000003995 |");
    }

    private static void recutTies() {
        PatchedColumns x = new PatchedColumns();
        // 17 alike need two blocks, of 49 bits each however they are cut: the first one is of 1.
        for (int i = 0; i < 17; i++) {
            Made.block(x, 0, 3);
        }
        due.is("recut 17 alike", x.recut(0), 98);
        due.is("first", x.block(0, 0, 0), 1);
        due.is("second", x.block(0, 1, 0), 16);
        x = Made.ones(2);
        due.is("two in one", x.recut(0), 51);
        due.is("one block", x.column(0, 0), 1);
        x = new PatchedColumns();
        for (int i = 0; i < 128; i++) {
            x.put(3);
            if (i % 16 == 15) {
                x.flush(0);
            }
        }
        due.is("recut 128 alike", x.recut(0), 8 * 49);
        due.is("8 blocks", x.column(0, 0), 8);
        x.remove(0, 0);
        x.recut(0);
        due.is("127 alike: first", x.block(0, 0, 0), 15);
        due.is("127 alike: second", x.block(0, 1, 0), 16);
    }

    private static void recutKeepsTo24() {
        PatchedColumns x = Made.wideAndNarrow(24);
        due.is("24 blocks as they are", x.recut(0), 12 * 137);
        due.is("24 blocks", x.column(0, 0), 24);
        x.merge(1, 1, 1);
        x.copy(0, 0, 32, 1);
        x.copy(0, 0, 96, 1);
        // By fewest bits alone it would be 32 blocks with 16 * 137.
        due.is("places", x.column(1, 1), 128);
        int bits = x.recut(1);
        due.is("at most 24 blocks", x.column(1, 0), 24);
        due.is("bits", bits, x.column(1, 3));
        due.yes("more bits than by 32 blocks", bits > 16 * 137);
        // Dearer by least: a wide block and both narrow ones beside it, of width 0 with 4
        // exceptions, 193 bits in place of 186. Four of them are needed, and come last.
        due.is("four times three in one", bits, 16 * 137 + 4 * (193 - 186));
        due.is("the first ones are short", x.block(1, 15, 0), 4);
        due.is("the long ones come last", x.block(1, 16, 0), 12);
        due.is("least", x.least(1), bits);
        due.is("cuts", x.cuts(1, -1), 24);
    }

    private static void walk() {
        PatchedColumns x = new PatchedColumns();
        // X: 647, then (647 * 857 + 593) mod 29989 = 15270.
        due.is("walk", x.walk(0, 10, 3, 2), 1);
        int one = 10 + 15270 % 7 - 3;
        int x2 = (15270 * 857 + 593) % 29989;
        due.is("X", x.about(3), x2);
        due.is("first", x.value(0, 0), one);
        due.is("second", x.value(0, 1), one + x2 % 7 - 3);
        x.put(4);
        due.is("walk 48", x.walk(1, 0, 99999, 48), 3);
        due.is("pending stays", x.about(0), 1);
        due.is("walk 33", x.walk(2, 0, 0, 33), 3);
        due.is("last one", x.block(2, 2, 0), 1);
        steps("walk", x, 3);
        int before = x.about(3);
        due.is("n 0", x.walk(2, 0, 0, 0), Made.NONE);
        due.is("n 49", x.walk(2, 0, 0, 49), Made.NONE);
        due.is("n -1", x.walk(2, 0, 0, -1), Made.NONE);
        due.is("spread -1", x.walk(2, 0, -1, 1), Made.NONE);
        due.is("spread 100000", x.walk(2, 0, 100000, 1), Made.NONE);
        for (int c : Made.NO_COLUMNS) {
            due.is("walk into " + c, x.walk(c, 0, 0, 1), Made.NONE);
        }
        due.is("X stays", x.about(3), before);
        steps("walk that can't be", x, 3);
        x = Made.full();
        due.is("walk the 129th", x.walk(0, 0, 0, 1), Made.NONE);
        x = Made.ones(23);
        due.is("walk the 25th block", x.walk(0, 0, 0, 17), Made.NONE);
        due.is("walk the 24th block", x.walk(0, 0, 0, 16), 1);
    }

    private static void walkGoesRound() {
        PatchedColumns x = new PatchedColumns();
        x.tell(0);
        // X is 593: with a spread of 592 it is 593 mod 1185 less 592: 1 more.
        x.walk(0, Made.MAX, 592, 1);
        due.is("going round", x.value(0, 0), Made.MIN);
        x.tell(0);
        x.walk(0, Made.MIN, 99999, 1);
        due.is("going round downward", x.value(0, 1), Made.MAX - (99999 - 593) + 1);
    }

    private static void tell() {
        PatchedColumns x = new PatchedColumns();
        due.yes("tell(0)", x.tell(0));
        due.is("X", x.about(3), 0);
        due.yes("tell(29988)", x.tell(29988));
        due.is("X", x.about(3), 29988);
        due.no("tell(29989)", x.tell(29989));
        due.no("tell(-1)", x.tell(-1));
        due.no("tell(MIN)", x.tell(Made.MIN));
        due.no("tell(MAX)", x.tell(Made.MAX));
        due.is("X stays", x.about(3), 29988);
        steps("tell", x, 0);
    }
}
