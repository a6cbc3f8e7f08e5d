/** Columns that the tests begin with. */
final class Made {
    static final int MIN = Integer.MIN_VALUE;
    static final int MAX = Integer.MAX_VALUE;
    static final int NONE = PatchedColumns.NONE;
    static final long EMPTY = 4294967296L;
    static final long ABSENT = -4294967296L;
    static final int[] NO_COLUMNS = {MIN, -2, -1, 3, 4, MAX};
    static final int[] WIDE = {1000000000, 1000004000, 1000000005, 1000003995};

    private Made() {
    }

    /** Adds a block of these places; null is an empty one. */
    static void block(PatchedColumns x, int column, Integer... places) {
        for (Integer place : places) {
            if (place == null) {
                x.gap();
            } else {
                x.put(place);
            }
        }
        if (x.flush(column) == NONE) {
            throw new IllegalStateException("no room for a block that the test begins with");
        }
    }

    static PatchedColumns with(Integer... places) {
        PatchedColumns x = new PatchedColumns();
        block(x, 0, places);
        return x;
    }

    /** So many blocks of one place each, with the numbers 0, 1, and so on. */
    static PatchedColumns ones(int blocks) {
        PatchedColumns x = new PatchedColumns();
        for (int i = 0; i < blocks; i++) {
            block(x, 0, i);
        }
        return x;
    }

    /** All 128 places, in 8 blocks, with the numbers 0, 1, and so on. */
    static PatchedColumns full() {
        PatchedColumns x = new PatchedColumns();
        for (int i = 0; i < 128; i++) {
            x.put(i);
            if (i % 16 == 15) {
                x.flush(0);
            }
        }
        return x;
    }

    /** Blocks of 4 places, by turns all 0 and of 12 bits each above 1000000000. */
    static PatchedColumns wideAndNarrow(int blocks) {
        PatchedColumns x = new PatchedColumns();
        for (int b = 0; b < blocks; b++) {
            for (int i = 0; i < 4; i++) {
                x.put(b % 2 == 0 ? 0 : WIDE[i]);
            }
            x.flush(0);
        }
        return x;
    }

    /** Two blocks, one, and none; a step less in the image; a fault, X, pending places, a tape. */
    static PatchedColumns mixed() {
        PatchedColumns x = with(5, 7, 6);
        block(x, 1, 10, null, 30);
        x.image();
        x.word(0);
        x.open(2);
        block(x, 0, 8, null);
        x.tell(77);
        x.put(3);
        x.gap();
        words(x, 9, -4);
        return x;
    }

    /** Column 0 by another width than BEST: 7 10 in 59 bits (52 by BEST), 7 8 in 55 (51). */
    static PatchedColumns wasted() {
        Bits bits = new Bits().head(2, 0, 5, 0, 7).parts(5, 0, 3).fill();
        PatchedColumns x = bits.head(2, 0, 3, 0, 7).parts(3, 0, 1).fill().onTape();
        x.open(0);
        return x;
    }

    /** So many places alike behind each other in column 0, in blocks of 16. */
    static PatchedColumns alike(int places, int value) {
        PatchedColumns x = new PatchedColumns();
        for (int i = 1; i <= places; i++) {
            x.put(value);
            if (i % 16 == 0 || i == places) {
                x.flush(0);
            }
        }
        return x;
    }

    /** Numbers that are below from or above to, at the edges and far away. */
    static int[] outside(int from, int to) {
        return new int[] {MIN, from - 2, from - 1, to + 1, to + 2, MAX};
    }

    static void words(PatchedColumns x, int... words) {
        for (int word : words) {
            x.word(word);
        }
    }

    /** A column's places as a text: numbers, _ where it is empty, | behind each block. */
    static String shown(PatchedColumns x, int column) {
        StringBuilder out = new StringBuilder();
        for (int b = 0; b < x.column(column, 0); b++) {
            int first = x.block(column, b, 7);
            for (int i = first; i < first + x.block(column, b, 0); i++) {
                long told = x.value(column, i);
                out.append(told == EMPTY ? "_" : String.valueOf(told)).append(' ');
            }
            out.append("| ");
        }
        return out.toString().trim();
    }
}
