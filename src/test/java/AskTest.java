/** Promises 27 to 39: what is told of columns, of blocks, and of places. */
final class AskTest {
    private static final Due due = new Due();

    public static void main(String[] args) {
        column();
        block();
        like();
        filled();
        empties();
        base();
        bits();
        bound();
        value();
        blockOf();
        read();
        patched();
        part();
        due.end("AskTest");
    }

    /** 5 7 6 (form 0, width 2), 10 20 30 1000000 (form 1, width 5, one exception), a gap. */
    private static PatchedColumns three() {
        PatchedColumns x = Made.with(5, 7, 6);
        Made.block(x, 0, 10, 20, 30, 1000000);
        Made.block(x, 0, new Integer[] {null});
        return x;
    }

    private static void column() {
        PatchedColumns x = three();
        int[] want = {3, 8, 7, 55 + 95 + 50, 2 + 3 + 2, 0, 1};
        for (int what = 0; what < want.length; what++) {
            due.is("column(0, " + what + ")", x.column(0, what), want[what]);
            due.is("column(1, " + what + ")", x.column(1, what), 0);
            for (int c : Made.NO_COLUMNS) {
                due.is("column(" + c + ", " + what + ")", x.column(c, what), Made.NONE);
            }
        }
        due.is("column(0, 7)", x.column(0, 7), Made.NONE);
        due.is("column(0, -1)", x.column(0, -1), Made.NONE);
        due.is("column(0, MIN)", x.column(0, Made.MIN), Made.NONE);
        // Two values of 0 told by width 5: 10 bits more than by width 0.
        Made.words(x, 1 | 5 << 7, 0);
        x.open(1);
        due.is("waste", x.column(1, 5), 10);
        due.is("bits with waste", x.column(1, 3), 59);
    }

    private static void block() {
        PatchedColumns x = three();
        int[][] want = {{3, 3, 0, 2, 0, 55, 2, 0}, {4, 4, 1, 5, 1, 95, 3, 3}, {1, 0, 0, 0, 0, 50, 2, 7}};
        for (int b = 0; b < 3; b++) {
            for (int what = 0; what <= 7; what++) {
                due.is("block(0, " + b + ", " + what + ")", x.block(0, b, what), want[b][what]);
            }
            due.is("block, 8", x.block(0, b, 8), Made.NONE);
            due.is("block, -1", x.block(0, b, -1), Made.NONE);
            due.is("block, MAX", x.block(0, b, Made.MAX), Made.NONE);
        }
        for (int b : new int[] {Made.MIN, -1, 3, 24, Made.MAX}) {
            due.is("block(0, " + b + ", 0)", x.block(0, b, 0), Made.NONE);
            due.is("block(0, " + b + ", 7)", x.block(0, b, 7), Made.NONE);
        }
        for (int c : Made.NO_COLUMNS) {
            due.is("block(" + c + ", 0, 0)", x.block(c, 0, 0), Made.NONE);
        }
        due.is("block(1, 0, 0)", x.block(1, 0, 0), Made.NONE);
    }

    private static void like() {
        PatchedColumns x = three();
        due.is("like(0, 0, -1)", x.like(0, 0, -1), 2);
        due.is("like(0, 1, -1)", x.like(0, 1, -1), 1);
        due.is("like(0, 2, -1)", x.like(0, 2, -1), 0);
        due.is("like(0, -1, -1)", x.like(0, -1, -1), 3);
        due.is("like(0, -1, 5)", x.like(0, -1, 5), 1);
        due.is("like(0, 0, 5)", x.like(0, 0, 5), 0);
        due.is("like(0, 0, 0)", x.like(0, 0, 0), 1);
        due.is("like(0, 0, 32)", x.like(0, 0, 32), 0);
        due.is("like(1, -1, -1)", x.like(1, -1, -1), 0);
        due.is("like(0, 3, -1)", x.like(0, 3, -1), Made.NONE);
        due.is("like(0, -2, -1)", x.like(0, -2, -1), Made.NONE);
        due.is("like(0, 0, 33)", x.like(0, 0, 33), Made.NONE);
        due.is("like(0, 0, -2)", x.like(0, 0, -2), Made.NONE);
        for (int c : Made.NO_COLUMNS) {
            due.is("like(" + c + ", -1, -1)", x.like(c, -1, -1), Made.NONE);
        }
    }

    private static void filled() {
        PatchedColumns x = three();
        due.is("filled(0)", x.filled(0), 9 + 1 + 14);
        due.is("filled(1)", x.filled(1), 0);
        // 16 places by width 3: 49 and 48 are 97 bits, in 4 words.
        for (int i = 0; i < 15; i++) {
            x.put(i * 5 % 8);
        }
        due.is("its bits", x.flush(1), 49 + 45);
        due.is("filled(1)", x.filled(1), 2);
        for (int c : Made.NO_COLUMNS) {
            due.is("filled(" + c + ")", x.filled(c), Made.NONE);
        }
    }

    private static void empties() {
        PatchedColumns x = Made.with(1, null, null);
        Made.block(x, 0, null, 5);
        due.is("empties(0, 0, 5)", x.empties(0, 0, 5), 3);
        due.is("empties(0, 2, 4)", x.empties(0, 2, 4), 2);
        due.is("empties(0, 1, 1)", x.empties(0, 1, 1), 0);
        due.is("empties(0, 5, 5)", x.empties(0, 5, 5), 0);
        due.is("empties(1, 0, 0)", x.empties(1, 0, 0), 0);
        due.is("empties(0, 2, 1)", x.empties(0, 2, 1), Made.NONE);
        due.is("empties(0, -1, 1)", x.empties(0, -1, 1), Made.NONE);
        due.is("empties(0, 0, 6)", x.empties(0, 0, 6), Made.NONE);
        due.is("empties(1, 0, 1)", x.empties(1, 0, 1), Made.NONE);
        for (int c : Made.NO_COLUMNS) {
            due.is("empties(" + c + ", 0, 0)", x.empties(c, 0, 0), Made.NONE);
        }
    }

    private static void base() {
        PatchedColumns x = three();
        for (int i = 0; i < 16; i++) {
            x.put(50 - 1000 * i + (i % 2));
        }
        x.flush(0);
        due.is("base of form 0", x.base(0, 0, 0), 5);
        due.is("base of form 1", x.base(0, 1, 0), 10);
        due.is("base of gaps", x.base(0, 2, 0), 0);
        due.is("form 2", x.block(0, 3, 2), 2);
        due.is("base of form 2", x.base(0, 3, 0), 50);
        due.is("step of form 2", x.base(0, 3, 1), -1001);
        due.is("step of form 0", x.base(0, 0, 1), 0);
        due.is("step of form 1", x.base(0, 1, 1), 0);
        due.is("base(0, 3, 2)", x.base(0, 3, 2), 0);
        due.is("base(0, 3, -1)", x.base(0, 3, -1), 0);
        due.is("base(0, 4, 0)", x.base(0, 4, 0), 0);
        due.is("base(0, -1, 0)", x.base(0, -1, 0), 0);
        for (int c : Made.NO_COLUMNS) {
            due.is("base(" + c + ", 0, 0)", x.base(c, 0, 0), 0);
        }
    }

    private static void bits() {
        PatchedColumns x = Made.with(-1);
        // 0000 0 00 000000 0000 and 32 times 1: from bit 17 on.
        due.is("bits(0, 0, 0)", x.bits(0, 0, 0), -1 << 17);
        due.is("bits(0, 0, 1)", x.bits(0, 0, 1), (1 << 17) - 1);
        due.is("bits(0, 0, 2)", x.bits(0, 0, 2), 0);
        due.is("bits(0, 0, -1)", x.bits(0, 0, -1), 0);
        due.is("bits(0, 0, MIN)", x.bits(0, 0, Made.MIN), 0);
        due.is("bits(0, 0, MAX)", x.bits(0, 0, Made.MAX), 0);
        due.is("bits(0, 1, 0)", x.bits(0, 1, 0), 0);
        due.is("bits(0, -1, 0)", x.bits(0, -1, 0), 0);
        due.is("bits(1, 0, 0)", x.bits(1, 0, 0), 0);
        for (int c : Made.NO_COLUMNS) {
            due.is("bits(" + c + ", 0, 0)", x.bits(c, 0, 0), 0);
        }
        // The longest block: form 2, 15 exceptions by width 0.
        x = new PatchedColumns();
        Made.words(x, 15 | 2 << 5 | 15 << 13, 0, 0);
        x.end(2);
        int[] words = longest();
        x.end(0);
        Made.words(x, words);
        due.is("the longest opens", x.open(0), 16);
        due.is("its bits", x.block(0, 0, 5), 621);
        due.is("its words", x.block(0, 0, 6), 20);
        for (int i = 0; i < 20; i++) {
            due.is("word " + i, x.bits(0, 0, i), words[i]);
        }
        due.is("word 20", x.bits(0, 0, 20), 0);
    }

    /** 16 places by form 2 and width 0, with 15 exceptions of 32 bits, the highest of them 1. */
    private static int[] longest() {
        int[] words = new int[20];
        int at = 0;
        at = write(words, at, 15, 4);
        at = write(words, at, 0, 1);
        at = write(words, at, 2, 2);
        at = write(words, at, 0, 6);
        at = write(words, at, 15, 4);
        at = write(words, at, 3, 32);
        at = write(words, at, 5, 32);
        for (int i = 0; i < 15; i++) {
            at = write(words, at, i, 4);
            at = write(words, at, Made.MIN + i, 32);
        }
        return words;
    }

    private static int write(int[] words, int at, int number, int bits) {
        for (int i = 0; i < bits; i++) {
            words[(at + i) / 32] |= (number >>> i & 1) << (at + i) % 32;
        }
        return at + bits;
    }

    private static void bound() {
        PatchedColumns x = three();
        due.is("low", x.bound(0, 0, false), 5);
        due.is("high", x.bound(0, 0, true), 8);
        due.is("form 1, low", x.bound(0, 1, false), Made.ABSENT);
        due.is("form 1, high", x.bound(0, 1, true), Made.ABSENT);
        due.is("gaps, low", x.bound(0, 2, false), Made.ABSENT);
        due.is("gaps, high", x.bound(0, 2, true), Made.ABSENT);
        due.is("no block", x.bound(0, 3, false), Made.ABSENT);
        due.is("block -1", x.bound(0, -1, true), Made.ABSENT);
        for (int c : Made.NO_COLUMNS) {
            due.is("bound(" + c + ", 0)", x.bound(c, 0, false), Made.ABSENT);
        }
        Made.block(x, 1, 0, 1, 0, 1, 0, 1, 0, 1, 1000);
        due.is("exceptions", x.block(1, 0, 4), 1);
        due.is("form", x.block(1, 0, 2), 0);
        due.is("with exceptions, low", x.bound(1, 0, false), 0);
        due.is("with exceptions, high", x.bound(1, 0, true), Made.MAX);
        Made.block(x, 1, Made.MAX - 2, Made.MAX, Made.MAX - 2);
        due.is("form", x.block(1, 1, 2), 0);
        due.is("2147483647 at most", x.bound(1, 1, true), Made.MAX);
        Made.block(x, 1, Made.MIN);
        due.is("width 0, low", x.bound(1, 2, false), Made.MIN);
        due.is("width 0, high", x.bound(1, 2, true), Made.MIN);
    }

    private static void value() {
        PatchedColumns x = Made.with(Made.MIN, null);
        Made.block(x, 0, Made.MAX);
        due.is("value(0, 0)", x.value(0, 0), Made.MIN);
        due.is("value(0, 1)", x.value(0, 1), Made.EMPTY);
        due.is("value(0, 2)", x.value(0, 2), Made.MAX);
        due.is("value(0, 3)", x.value(0, 3), Made.ABSENT);
        due.is("value(0, -1)", x.value(0, -1), Made.ABSENT);
        due.is("value(0, MAX)", x.value(0, Made.MAX), Made.ABSENT);
        due.is("value(0, MIN)", x.value(0, Made.MIN), Made.ABSENT);
        for (int c : Made.NO_COLUMNS) {
            due.is("value(" + c + ", 0)", x.value(c, 0), Made.ABSENT);
        }
    }

    private static void blockOf() {
        PatchedColumns x = three();
        int[] want = {0, 0, 0, 1, 1, 1, 1, 2};
        for (int i = 0; i < 8; i++) {
            due.is("blockOf(0, " + i + ")", x.blockOf(0, i), want[i]);
        }
        due.is("blockOf(0, 8)", x.blockOf(0, 8), Made.NONE);
        due.is("blockOf(0, -1)", x.blockOf(0, -1), Made.NONE);
        for (int c : Made.NO_COLUMNS) {
            due.is("blockOf(" + c + ", 0)", x.blockOf(c, 0), Made.NONE);
        }
    }

    private static void read() {
        PatchedColumns x = three();
        int[] want = {1, 1, 1, 0, 1, 2, 3, 0};
        for (int i = 0; i < 8; i++) {
            due.is("read(0, " + i + ")", x.read(0, i), want[i]);
        }
        due.is("read(0, 8)", x.read(0, 8), Made.NONE);
        due.is("read(0, -1)", x.read(0, -1), Made.NONE);
        for (int c : Made.NO_COLUMNS) {
            due.is("read(" + c + ", 0)", x.read(c, 0), Made.NONE);
        }
        Made.block(x, 1, null, 10, null, 9, 8, null, 7);
        due.is("form 1", x.block(1, 0, 2), 1);
        due.is("empty ones don't count", x.read(1, 6), 3);
        due.is("an empty one", x.read(1, 5), 0);
        due.is("the first value", x.read(1, 1), 0);
    }

    private static void patched() {
        PatchedColumns x = three();
        for (int i = -1; i <= 8; i++) {
            due.is("patched(0, " + i + ")", x.patched(0, i) ? 1 : 0, i == 6 ? 1 : 0);
        }
        for (int c : Made.NO_COLUMNS) {
            due.no("patched(" + c + ", 6)", x.patched(c, 6));
        }
        Made.block(x, 1, null, 0, 1, 0, 1, 0, 1, 0, 1, 1000, null, 0);
        due.is("form 0", x.block(1, 0, 2), 0);
        due.is("one exception", x.block(1, 0, 4), 1);
        for (int i = 0; i < 12; i++) {
            due.is("patched(1, " + i + ")", x.patched(1, i) ? 1 : 0, i == 9 ? 1 : 0);
        }
    }

    private static void part() {
        PatchedColumns x = three();
        long[] first = {0, 2, 1};
        long[] second = {20, 20, 1999940};
        for (int i = 0; i < 3; i++) {
            due.is("part(0, 0, " + i + ")", x.part(0, 0, i), first[i]);
            due.is("part(0, 1, " + i + ")", x.part(0, 1, i), second[i]);
        }
        due.is("part(0, 0, 3)", x.part(0, 0, 3), Made.NONE);
        due.is("part(0, 1, 3)", x.part(0, 1, 3), Made.NONE);
        due.is("part(0, 2, 0)", x.part(0, 2, 0), Made.NONE);
        due.is("part(0, 0, -1)", x.part(0, 0, -1), Made.NONE);
        due.is("part(0, 3, 0)", x.part(0, 3, 0), Made.NONE);
        due.is("part(0, -1, 0)", x.part(0, -1, 0), Made.NONE);
        for (int c : Made.NO_COLUMNS) {
            due.is("part(" + c + ", 0, 0)", x.part(c, 0, 0), Made.NONE);
        }
        x = new PatchedColumns();
        Made.words(x, 1 | 32 << 7, 1 << 16, -1 << 17, (1 << 17) - 1);
        due.is("open the widest", x.open(0), 2);
        due.is("the widest part", x.part(0, 0, 1), 4294967295L);
    }
}
