/** Columns that the tests begin with. */
final class Made {
    static final int MIN = Integer.MIN_VALUE;
    static final int MAX = Integer.MAX_VALUE;
    static final int NONE = PatchedColumns.NONE;
    static final long EMPTY = 4294967296L;
    static final long ABSENT = -4294967296L;
    static final int[] NO_COLUMNS = {MIN, -2, -1, 3, 4, MAX};

    private Made() {
    }

    /** Adds a block of these places; null is an empty one. */
    static void block(PatchedColumns x, int column, Integer... places) {
        for (Integer place : places) {
            if (place == null) {
                x.gap();
            } else {
                x.put(place);
            }
        }
        if (x.flush(column) == NONE) {
            throw new IllegalStateException("no room for a block that the test begins with");
        }
    }

    static PatchedColumns with(Integer... places) {
        PatchedColumns x = new PatchedColumns();
        block(x, 0, places);
        return x;
    }

    /** So many blocks of one place each, with the numbers 0, 1, and so on. */
    static PatchedColumns ones(int blocks) {
        PatchedColumns x = new PatchedColumns();
        for (int i = 0; i < blocks; i++) {
            block(x, 0, i);
        }
        return x;
    }

    /** All 128 places, in 8 blocks, with the numbers 0, 1, and so on. */
    static PatchedColumns full() {
        PatchedColumns x = new PatchedColumns();
        for (int i = 0; i < 128; i++) {
            x.put(i);
            if (i % 16 == 15) {
                x.flush(0);
            }
        }
        return x;
    }

    static void words(PatchedColumns x, int... words) {
        for (int word : words) {
            x.word(word);
        }
    }

    /** A column's places as a text: numbers, _ where it is empty, | behind each block. */
    static String shown(PatchedColumns x, int column) {
        StringBuilder out = new StringBuilder();
        for (int b = 0; b < x.column(column, 0); b++) {
            int first = x.block(column, b, 7);
            for (int i = first; i < first + x.block(column, b, 0); i++) {
                long told = x.value(column, i);
                out.append(told == EMPTY ? "_" : String.valueOf(told)).append(' ');
            }
            out.append("| ");
        }
        return out.toString().trim();
    }
}
