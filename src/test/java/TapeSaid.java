/** Terms: THE TAPE and its FAULTS; promises 20 to 25. */
final class TapeSaid {
    private static final int NONE = Made.NONE;
    private static final int MIN = Made.MIN;
    private static final int MAX = Made.MAX;

    private TapeSaid() {
    }

    static void tell(Sentences said) {
        said.in(Sentences.TERMS);
        theTape(said);
        theFirst(said);
        endsWithin(said);
        headsRefused(said);
        whichRefused(said);
        notAsTold(said);
        fillingAndTooMany(said);
        words(said);
        saveAndOpen(said);
        fault(said);
    }

    /** What is on the tape is refused: the fault and its bit; the column stays, the tape is empty. */
    private static void refused(Due due, String what, Bits bits, int fault, int bit) {
        PatchedColumns x = bits.onTape();
        Made.block(x, 1, 4, 5);
        due.is(what + ": open", x.open(1), NONE);
        due.is(what + ": fault", x.fault(0), fault);
        due.is(what + ": bit", x.fault(1), bit);
        due.same(what, Made.shown(x, 1), "4 5 |");
        due.is(what + ": tape", x.about(2), 0);
        due.is(what + ": steps", x.about(1), 1);
    }

    private static PatchedColumns taken(Due due, String what, Bits bits, String want) {
        PatchedColumns x = bits.onTape();
        due.is(what + ": open", x.open(0), want.replaceAll("[^ |]+", "p").chars().filter(c -> c == 'p').count());
        due.is(what + ": fault", x.fault(0), 0);
        due.same(what, Made.shown(x, 0), want);
        return x;
    }

    private static PatchedColumns fullTape() {
        PatchedColumns x = Made.with(5, 6);
        for (int i = 0; i < 400; i++) {
            x.word(i);
        }
        return x;
    }

    private static void theTape(Sentences said) {
        said.that("THE TAPE has up to 400 WORDS.", due -> {
            PatchedColumns x = fullTape();
            due.is("words", x.about(2), 400);
            due.is("the last", x.tape(399), 399);
            due.is("no 401st", x.word(7), NONE);
            due.is("words", x.about(2), 400);
        }).that("SAVED: THE TAPE is the WORDS of a COLUMN's BLOCKS, one behind the other.", due -> {
            PatchedColumns x = Made.with(1, 2);
            Made.block(x, 0, null, 5, 9);
            Made.words(x, 7, 8, 9, 10, 11, 12);
            due.is("save", x.save(0), 4);
            Bits bits = new Bits().head(2, 0, 1, 0, 1).parts(1, 0, 1).fill();
            bits.masked(3, 1, 1, 4, 0, 5).of(8, 4).fill();
            due.is("words", x.about(2), bits.size());
            for (int i = 0; i < bits.size(); i++) {
                due.is("word " + i, x.tape(i), bits.word(i));
            }
        }).that("OPENED: THE TAPE (empty then, always)", due -> {
            PatchedColumns x = Made.with(1, 2);
            x.save(0);
            due.is("open", x.open(1), 2);
            due.is("words", x.about(2), 0);
            x.word(0);
            due.is("a fault", x.open(1), NONE);
            due.is("words", x.about(2), 0);
            due.is("an empty one", x.open(1), 0);
            due.is("words", x.about(2), 0);
        }).that("is read as BLOCKS, one behind the other, till its end;", due -> {
            taken(due, "none", new Bits(), "");
            taken(due, "one", new Bits().head(1, 0, 0, 0, 8).fill(), "8 |");
            taken(due, "three", new Bits().head(1, 0, 0, 0, 8).fill().head(2, 0, 0, 0, 9).fill()
                    .masked(2, 1, 0, 0, 0, 7).fill(), "8 | 9 9 | _ 7 |");
            PatchedColumns x = new Bits().head(1, 0, 0, 0, 8).fill().head(1, 0, 0, 0, 9).fill().onTape();
            x.end(2);
            due.is("up to its end alone", x.open(0), 1);
        }).that("they are the COLUMN's then,", due -> {
            PatchedColumns x = Made.mixed();
            x.end(0);
            new Bits().head(1, 0, 0, 0, 8).fill().onto(x);
            due.is("open", x.open(0), 1);
            due.same("in place of all it had", Made.shown(x, 0), "8 |");
            due.same("the others stay", Made.shown(x, 1), "10 _ 30 |");
            due.is("pending stays", x.about(0), 2);
            due.is("X stays", x.about(3), 77);
        }).that("just as they are told (also if BEST is another FORM or WIDTH).", due -> {
            PatchedColumns x = taken(due, "form 2", new Bits().head(3, 2, 7, 1, 10).of(-4, 32)
                    .parts(7, 9, 1).of(0, 4).of(1, 25).fill(), "10 143 140 |");
            int[] want = {3, 3, 2, 7, 1, 81 + 14 + 29, 4, 0};
            for (int what = 0; what < want.length; what++) {
                due.is("block(0, 0, " + what + ")", x.block(0, 0, what), want[what]);
            }
            due.is("base", x.base(0, 0, 0), 10);
            due.is("step", x.base(0, 0, 1), -4);
            due.is("part 0", x.part(0, 0, 0), 137);
            due.is("part 1", x.part(0, 0, 1), 1);
            due.is("words", x.save(0), 4);
            due.is("open again", x.open(1), 3);
            due.same("again", Twins.words(x, 1), Twins.words(x, 0));
            x = taken(due, "form 1", new Bits().head(3, 1, 9, 0, 10).parts(9, 4, 1).fill(), "10 12 11 |");
            due.is("form", x.block(0, 0, 2), 1);
            due.is("no step", x.base(0, 0, 1), 0);
            due.is("part 0", x.part(0, 0, 0), 4);
            due.is("part 1", x.part(0, 0, 1), 1);
            x = taken(due, "form 0", new Bits().head(2, 0, 9, 0, 10).parts(9, 4, 0).fill(), "14 10 |");
            due.is("no step", x.base(0, 0, 1), 0);
            sixteenByFormZero(due);
        });
    }

    private static void sixteenByFormZero(Due due) {
        Bits bits = new Bits().head(16, 0, 5, 1, -3);
        StringBuilder want = new StringBuilder();
        for (int i = 0; i < 16; i++) {
            bits.of(i, 5);
            want.append(i == 15 ? 15 + 32 - 3 : i - 3).append(' ');
        }
        PatchedColumns x = taken(due, "16 by form 0", bits.of(15, 4).of(1, 27).fill(), want.append('|').toString());
        due.is("the last part", x.part(0, 0, 15), 15 + 32);
        due.yes("it is patched", x.patched(0, 15));
        due.is("words again", x.save(0), bits.size());
        for (int i = 0; i < bits.size(); i++) {
            due.is("word " + i, x.tape(i), bits.word(i));
        }
    }

    private static void theFirst(Sentences said) {
        said.that("FAULTS, the first as numbers are read,", due -> {
            Bits full = new Bits();
            for (int i = 0; i < 8; i++) {
                full.head(16, 0, 0, 0, 3).fill();
            }
            refused(due, "8 ahead of a mask", full.masked(1, 0, 3, 63, 9, 0).fill(), 8, 512);
            refused(due, "mask ahead of form", new Bits().masked(1, 0, 3, 63, 9, 0).fill(), 6, 5);
            refused(due, "form ahead of width", new Bits().head(1, 3, 63, 9, 0).fill(), 2, 5);
            refused(due, "width ahead of exceptions", new Bits().head(1, 0, 63, 9, 0).fill(), 3, 7);
            refused(due, "exceptions ahead of the end", new Bits().of(0, 13).of(9, 4).of(0, 15), 4, 13);
            refused(due, "which ahead of a rest of 0", new Bits().head(1, 0, 0, 1, 0).of(1, 4).of(0, 32)
                    .fill(), 5, 49);
            refused(due, "which ahead of the end", new Bits().head(1, 0, 0, 1, 0).of(1, 4).fill(), 5, 49);
            refused(due, "a rest ahead of which", new Bits().head(2, 0, 0, 2, 0).of(0, 4).of(0, 32)
                    .of(0, 4).of(0, 32).fill(), 6, 53);
            refused(due, "a rest ahead of a base", new Bits().head(1, 0, 0, 1, 5).of(0, 4).of(0, 32)
                    .fill(), 6, 53);
            refused(due, "a base ahead of the filling", new Bits().head(1, 0, 1, 0, 5).of(1, 1).of(1, 14),
                    6, 17);
            refused(due, "the end ahead of a base", new Bits().head(1, 0, 16, 0, 5).of(1, 15), 1, 49);
            refused(due, "the first block ahead of the second", new Bits().head(1, 0, 0, 0, 5).of(1, 15)
                    .head(1, 3, 0, 0, 0).fill(), 7, 49);
        }).that("with the number of THE TAPE's bit it begins at (from 0):", due -> {
            refused(due, "in the first", new Bits().head(2, 3, 0, 0, 0).fill(), 2, 5);
            refused(due, "in the third", new Bits().head(1, 0, 0, 0, 5).fill().head(1, 0, 16, 0, 5).of(0, 16)
                    .fill().head(2, 3, 0, 0, 0).fill(), 2, 64 + 96 + 5);
        });
    }

    private static void endsWithin(Sentences said) {
        said.that("1 THE TAPE ends within it.", due -> {
            refused(due, "the base", new Bits().of(0, 32), 1, 17);
            // With a mask of 16 bits the exceptions begin at bit 29, and have 4 bits.
            refused(due, "the exceptions", new Bits().of(15, 4).of(1, 1).of(1, 16).of(0, 11), 1, 29);
            // With one of 15 bits the base begins where the tape ends.
            refused(due, "the base, at the end", new Bits().of(14, 4).of(1, 1).of(1, 15).of(0, 12), 1, 32);
            refused(due, "the step", new Bits().head(2, 2, 0, 0, 0).fill(), 1, 49);
            refused(due, "a part", new Bits().head(2, 0, 8, 0, 0).of(0, 15), 1, 57);
            refused(due, "a part, at the end", new Bits().head(2, 0, 15, 0, 0).of(0, 15), 1, 64);
            refused(due, "which part", new Bits().head(1, 0, 12, 1, 0).of(0, 15), 1, 61);
            refused(due, "which part, at the end", new Bits().head(1, 0, 15, 1, 0).of(0, 15), 1, 64);
            refused(due, "a rest", new Bits().head(1, 0, 0, 1, 0).of(0, 15), 1, 53);
            refused(due, "a rest, at the end", new Bits().head(1, 0, 11, 1, 0).of(0, 15), 1, 64);
            refused(due, "in the second block", new Bits().head(1, 0, 0, 0, 5).fill().of(0, 32), 1, 64 + 17);
            taken(due, "just the end", new Bits().head(1, 0, 15, 0, 5).of(0, 15), "5 |");
            // With a mask of 15 bits it is 64 up to the base: parts without bits begin at the end.
            taken(due, "parts of no bits at the end", new Bits().masked(15, 1, 0, 0, 0, 6),
                    "_ 6 6 6 6 6 6 6 6 6 6 6 6 6 6 |");
        });
    }

    private static void headsRefused(Sentences said) {
        said.that("2 FORM 3;", due -> {
            refused(due, "without a mask", new Bits().head(2, 3, 0, 0, 0).fill(), 2, 5);
            refused(due, "with one", new Bits().masked(3, 4, 3, 0, 0, 0).fill(), 2, 8);
        }).that("FORM 1, 2 with fewer than two VALUES.", due -> {
            refused(due, "1 of one", new Bits().head(1, 1, 0, 0, 0).fill(), 2, 5);
            refused(due, "2 of one", new Bits().head(1, 2, 0, 0, 0).of(0, 32).fill(), 2, 5);
            refused(due, "1 of one and a gap", new Bits().masked(2, 1, 1, 0, 0, 0).fill(), 2, 7);
            refused(due, "2 of none", new Bits().masked(3, 7, 2, 0, 0, 0).of(0, 32).fill(), 2, 8);
            taken(due, "1 of two", new Bits().head(2, 1, 0, 0, 4).fill(), "4 4 |");
            taken(due, "2 of two", new Bits().head(2, 2, 0, 0, 4).of(3, 32).fill(), "4 7 |");
            taken(due, "1 of two and a gap", new Bits().masked(3, 2, 1, 0, 0, 4).fill(), "4 _ 4 |");
        }).that("3 WIDTH above 32.", due -> {
            refused(due, "33", new Bits().head(1, 0, 33, 0, 0).of(0, 33).fill(), 3, 7);
            refused(due, "63", new Bits().head(1, 0, 63, 0, 0).of(0, 63).fill(), 3, 7);
            refused(due, "33 with a mask", new Bits().masked(2, 1, 0, 33, 0, 0).of(0, 33).fill(), 3, 9);
            taken(due, "32", new Bits().head(1, 0, 32, 0, 4).of(0, 32).fill(), "4 |");
        }).that("4 more EXCEPTIONS than PARTS,", due -> {
            refused(due, "2 of 1", new Bits().head(1, 0, 0, 2, 0).of(0, 4).of(1, 32).of(1, 4).of(1, 32)
                    .fill(), 4, 13);
            refused(due, "1 of 0", new Bits().masked(2, 3, 0, 0, 1, 0).of(0, 4).of(1, 32).fill(), 4, 15);
            taken(due, "2 of 2, by form 1", new Bits().head(3, 1, 0, 2, 0).of(0, 4).of(2, 32).of(1, 4)
                    .of(1, 32).fill(), "0 1 0 |");
        }).that("or any by WIDTH 32", due -> {
            refused(due, "one", new Bits().head(2, 0, 32, 1, 0).parts(32, 0, 0).of(0, 4).fill(), 4, 13);
            taken(due, "by 31", new Bits().head(2, 0, 31, 1, MIN).parts(31, 0, 7).of(1, 4).of(1, 1).fill(),
                    MIN + " 7 |");
        }).that("(PARTS: as many as VALUES by FORM 0, else one fewer).", due -> {
            taken(due, "by form 0 as many", new Bits().masked(3, 2, 0, 0, 1, 4).of(1, 4).of(3, 32).fill(),
                    "4 _ 7 |");
            refused(due, "one more", new Bits().masked(3, 2, 0, 0, 3, 4).of(0, 64).fill(), 4, 16);
            refused(due, "by form 1 one fewer", new Bits().head(2, 1, 0, 2, 0).of(0, 4).of(1, 32).of(1, 4)
                    .of(1, 32).fill(), 4, 13);
            refused(due, "by form 2 one fewer", new Bits().head(2, 2, 0, 2, 0).of(0, 32).of(0, 4).of(1, 32)
                    .of(1, 4).of(1, 32).fill(), 4, 13);
            taken(due, "15 by form 1 of 16", fifteen(), "0 1 2 3 4 5 6 7 8 9 10 11 12 13 14 15 |");
        });
    }

    private static Bits fifteen() {
        Bits bits = new Bits().head(16, 1, 0, 15, 0);
        for (int i = 0; i < 15; i++) {
            bits.of(i, 4).of(2, 32);
        }
        return bits.fill();
    }

    private static void whichRefused(Sentences said) {
        said.that("5 which PART: there is none such,", due -> {
            refused(due, "by form 0", new Bits().head(2, 0, 0, 1, 0).of(2, 4).of(1, 32).fill(), 5, 49);
            refused(due, "by form 1", new Bits().head(2, 1, 0, 1, 0).of(1, 4).of(1, 32).fill(), 5, 49);
            refused(due, "by form 2", new Bits().head(2, 2, 0, 1, 0).of(0, 32).of(1, 4).of(1, 32).fill(),
                    5, 81);
            refused(due, "places that are empty have none", new Bits().masked(3, 4, 0, 0, 1, 0).of(2, 4)
                    .of(1, 32).fill(), 5, 52);
            refused(due, "15", new Bits().head(15, 0, 0, 1, 0).of(15, 4).of(1, 32).fill(), 5, 49);
            taken(due, "the last", new Bits().head(2, 0, 0, 1, 0).of(1, 4).of(1, 32).fill(), "0 1 |");
        }).that("or it isn't above the one told ahead in this BLOCK.", due -> {
            refused(due, "like it", new Bits().head(4, 0, 0, 2, 0).of(1, 4).of(1, 32).of(1, 4).of(1, 32)
                    .fill(), 5, 85);
            refused(due, "below it", new Bits().head(4, 0, 0, 2, 0).of(2, 4).of(1, 32).of(1, 4).of(1, 32)
                    .fill(), 5, 85);
            taken(due, "above it", new Bits().head(4, 0, 0, 2, 0).of(1, 4).of(1, 32).of(3, 4).of(1, 32)
                    .fill(), "0 1 0 1 |");
            taken(due, "another block's", new Bits().head(2, 0, 0, 1, 0).of(1, 4).of(1, 32).fill()
                    .head(2, 0, 0, 1, 0).of(0, 4).of(1, 32).fill(), "0 1 | 1 0 |");
        });
    }

    private static void notAsTold(Sentences said) {
        said.that("6 a REST of 0;", due -> {
            refused(due, "by width 3", new Bits().head(2, 0, 3, 1, 0).parts(3, 0, 5).of(1, 4).of(0, 29)
                    .fill(), 6, 59);
            refused(due, "by form 1", new Bits().head(2, 1, 3, 1, 0).of(5, 3).of(0, 4).of(0, 29).fill(),
                    6, 56);
            refused(due, "the second", new Bits().head(2, 0, 0, 2, 5).of(0, 4).of(1, 32).of(1, 4).of(0, 32)
                    .fill(), 6, 89);
            taken(due, "of 1", new Bits().head(2, 0, 3, 1, 0).parts(3, 0, 5).of(1, 4).of(1, 29).fill(),
                    "0 13 |");
            taken(due, "its highest bit", new Bits().head(2, 0, 3, 1, MIN).parts(3, 0, 5).of(1, 4)
                    .of(1 << 28, 29).fill(), MIN + " 5 |");
        }).that("a mask (its first bit) without an EMPTY PLACE;", due -> {
            refused(due, "of 1", new Bits().masked(1, 0, 0, 0, 0, 4).fill(), 6, 5);
            refused(due, "of 16", new Bits().masked(16, 0, 0, 0, 0, 4).fill(), 6, 5);
            refused(due, "in the second block", new Bits().head(1, 0, 0, 0, 5).fill()
                    .masked(3, 0, 0, 0, 0, 4).fill(), 6, 64 + 5);
            taken(due, "the last one alone", new Bits().masked(3, 4, 0, 0, 0, 4).fill(), "4 4 _ |");
            taken(due, "all of them", new Bits().masked(3, 7, 0, 0, 0, 0).fill(), "_ _ _ |");
        }).that("of FORM 0 a BASE (its first bit, once all EXCEPTIONS are read) that isn't the least VALUE",
                due -> {
            refused(due, "below all", new Bits().head(2, 0, 2, 0, 5).parts(2, 1, 2).fill(), 6, 17);
            refused(due, "with a mask", new Bits().masked(2, 1, 0, 2, 0, 5).of(1, 2).fill(), 6, 19);
            refused(due, "by an exception", new Bits().head(1, 0, 0, 1, 5).of(0, 4).of(1, 32).fill(), 6, 17);
            refused(due, "one goes round below it", new Bits().head(2, 0, 2, 0, MAX).parts(2, 0, 1).fill(),
                    6, 17);
            refused(due, "all go round", new Bits().head(1, 0, 1, 0, MAX).of(1, 1).fill(), 6, 17);
            taken(due, "the least", new Bits().head(2, 0, 2, 0, 5).parts(2, 1, 0).fill(), "6 5 |");
            taken(due, "up to the greatest", new Bits().head(2, 0, 2, 0, MAX - 1).parts(2, 0, 1).fill(),
                    (MAX - 1) + " " + MAX + " |");
            taken(due, "of form 1 any", new Bits().head(2, 1, 2, 0, 5).of(2, 2).fill(), "5 6 |");
            taken(due, "of form 2 any", new Bits().head(2, 2, 2, 0, 5).of(1, 32).of(2, 2).fill(), "5 8 |");
        }).that("(0 without VALUES). 7", due -> {
            refused(due, "another one", new Bits().masked(2, 3, 0, 0, 0, 1).fill(), 6, 19);
            refused(due, "the greatest", new Bits().masked(1, 1, 0, 0, 0, MAX).fill(), 6, 18);
            refused(due, "the least", new Bits().masked(1, 1, 0, 0, 0, MIN).fill(), 6, 18);
            taken(due, "0", new Bits().masked(2, 3, 0, 9, 0, 0).fill(), "_ _ |");
        });
    }

    private static Bits ones(int blocks) {
        Bits bits = new Bits();
        for (int i = 0; i < blocks; i++) {
            bits.head(1, 0, 0, 0, i).fill();
        }
        return bits;
    }

    private static Bits sixteens(int blocks) {
        Bits bits = new Bits();
        for (int i = 0; i < blocks; i++) {
            bits.head(16, 0, 0, 0, 3).fill();
        }
        return bits;
    }

    private static void fillingAndTooMany(Sentences said) {
        said.that("what fills up a WORD isn't 0 (its first bit).", due -> {
            for (int bit = 0; bit < 15; bit++) {
                refused(due, "bit " + bit, new Bits().head(1, 0, 0, 0, 5).of(1 << bit, 15), 7, 49);
            }
            refused(due, "one bit alone", new Bits().head(1, 0, 14, 0, 5).of(0, 14).of(1, 1), 7, 63);
            refused(due, "in the second block", new Bits().head(1, 0, 0, 0, 5).fill().head(1, 0, 0, 0, 5)
                    .of(2, 15), 7, 64 + 49);
            taken(due, "nothing to fill", new Bits().head(1, 0, 15, 0, 5).of(0, 15), "5 |");
        }).that("8 the 25th BLOCK,", due -> {
            due.is("24", ones(24).onTape().open(0), 24);
            refused(due, "the 25th", ones(25), 8, 24 * 64);
            PatchedColumns x = Made.ones(24);
            ones(24).onto(x);
            due.is("what the column has doesn't count", x.open(0), 24);
        }).that("or more than 128 PLACES", due -> {
            due.is("128", sixteens(8).onTape().open(0), 128);
            refused(due, "129", sixteens(8).head(1, 0, 0, 0, 3).fill(), 8, 8 * 64);
            Bits bits = sixteens(7).head(15, 0, 0, 0, 3).fill();
            due.is("127", bits.onTape().open(0), 127);
            refused(due, "129 by one of two", bits.head(2, 0, 0, 0, 3).fill(), 8, 8 * 64);
        }).that("(at the BLOCK's first bit, as soon as its PLACES are read).", due -> {
            refused(due, "the 25th, though all else is wrong", ones(24).of(-1, 32), 8, 24 * 64);
            refused(due, "the 25th, though the tape ends", ones(24).of(0, 32), 8, 24 * 64);
            refused(due, "129, though all else is wrong", sixteens(8).of(-1, 32), 8, 8 * 64);
        });
    }

    private static void words(Sentences said) {
        said.promise(20).that("A WORD comes behind THE TAPE: how many it has.", due -> {
            PatchedColumns x = new PatchedColumns();
            for (int i = 1; i <= 400; i++) {
                due.is("word " + i, x.word(-i), i);
            }
            for (int i = 0; i < 400; i += 57) {
                due.is("tape(" + i + ")", x.tape(i), -i - 1);
            }
            due.is("no step", x.about(1), 0);
        }).that("NONE: there are 400.", due -> {
            PatchedColumns x = fullTape();
            due.is("word", x.word(7), NONE);
            due.same("word", seenAtTheEnd(x), seenAtTheEnd(fullTape()));
        });
        said.promise(21).that("THE TAPE has its first n WORDS alone: true.", due -> {
            PatchedColumns x = new PatchedColumns();
            due.yes("0 of none", x.end(0));
            Made.words(x, 5, 6, 7);
            due.yes("as many as it has", x.end(3));
            due.is("words", x.about(2), 3);
            due.yes("1", x.end(1));
            due.is("words", x.about(2), 1);
            due.is("the first", x.tape(0), 5);
            due.is("the second is gone", x.tape(1), 0);
            due.is("another one comes behind it", x.word(9), 2);
            due.is("there", x.tape(1), 9);
            due.yes("0", x.end(0));
            due.is("words", x.about(2), 0);
            due.is("no step", x.about(1), 0);
        }).that("False: it has not so many,", due ->
            new Twins(due, Made::mixed)
                    .answersEach(0, "end", new int[] {3, 4, 400, MAX}, (x, n) -> x.end(n) ? 1 : 0)
        ).that("or n is below 0.", due ->
            new Twins(due, Made::mixed)
                    .answersEach(0, "end", new int[] {-1, -2, MIN}, (x, n) -> x.end(n) ? 1 : 0)
        );
        said.promise(22).that("The i-th WORD of THE TAPE", due -> {
            PatchedColumns x = Made.mixed();
            due.is("0", x.tape(0), 9);
            due.is("1", x.tape(1), -4);
        }).that("(0 without).", due -> {
            new Twins(due, Made::mixed).answersEach(0, "tape", Made.outside(0, 1), (x, i) -> x.tape(i));
            due.is("behind the last of all", fullTape().tape(400), 0);
            PatchedColumns x = Made.mixed();
            x.open(0);
            due.is("none once it is opened", x.tape(1), 0);
        });
    }

    /** As Twins has it, for a tape that is too long to be asked word by word. */
    private static String seenAtTheEnd(PatchedColumns x) {
        StringBuilder out = new StringBuilder(Made.shown(x, 0));
        out.append(x.about(0)).append(' ').append(x.about(1)).append(' ').append(x.about(2));
        for (int i = 380; i < 402; i++) {
            out.append(' ').append(x.tape(i));
        }
        return out.toString();
    }

    private static void saveAndOpen(Sentences said) {
        said.promise(23).that("SAVED: how many WORDS.", due -> {
            PatchedColumns x = Made.mixed();
            due.is("55 and 51 bits", x.save(0), 4);
            due.is("without blocks", x.save(2), 0);
            due.is("the tape has none then", x.about(2), 0);
            due.is("no step", x.about(1), 3);
        }).that("NONE: no such COLUMN (THE TAPE stays).", due ->
            new Twins(due, Made::mixed).answersEach(NONE, "save", Made.NO_COLUMNS, (x, c) -> x.save(c))
        );
        said.promise(24).that("OPENED: how many PLACES.", due -> {
            PatchedColumns x = Made.mixed();
            x.save(0);
            due.is("open", x.open(2), 5);
            due.is("a step", x.about(1), 4);
            due.is("of none", x.open(2), 0);
            due.is("a step, too", x.about(1), 5);
        }).that("NONE: it has a FAULT (the COLUMN stays);", due -> {
            PatchedColumns x = Made.mixed();
            x.end(0);
            new Bits().head(1, 0, 0, 0, 8).fill().head(1, 3, 0, 0, 8).fill().onto(x);
            due.is("though the first block is fine", x.open(0), NONE);
            PatchedColumns y = Made.mixed();
            y.end(0);
            due.same("column 0", Twins.words(x, 0), Twins.words(y, 0));
            due.is("no step", x.about(1), 3);
            due.is("pending stays", x.about(0), 2);
            due.is("X stays", x.about(3), 77);
            for (int i = 0; i < 3; i++) {
                x.undo();
                y.undo();
                due.same("a step back", Made.shown(x, 0) + x.about(0), Made.shown(y, 0) + y.about(0));
            }
        }).that("-2: no such COLUMN (THE TAPE stays).", due ->
            new Twins(due, Made::mixed).answersEach(-2, "open", Made.NO_COLUMNS, (x, c) -> x.open(c))
        );
    }

    private static void fault(Sentences said) {
        said.promise(25).that("Of the latest that was OPENED: 0 its FAULT (0 without), 1 the bit (NONE without).",
                due -> {
            PatchedColumns x = new PatchedColumns();
            x.word(0);
            x.open(0);
            due.is("fault", x.fault(0), 1);
            due.is("bit", x.fault(1), 17);
            x.open(0);
            due.is("no fault then", x.fault(0), 0);
            due.is("no bit then", x.fault(1), NONE);
            Made.words(x, -1, -1);
            x.open(1);
            due.is("fault", x.fault(0), 2);
            due.is("bit", x.fault(1), 21);
            x.open(3);
            due.is("what isn't opened leaves it", x.fault(0), 2);
            x.undo();
            due.is("undo leaves it", x.fault(1), 21);
            x.back();
            due.is("back leaves it", x.fault(1), 21);
        }).that("NONE for others,", due -> {
            new Twins(due, Made::mixed).answersEach(NONE, "fault", Made.outside(0, 1), (x, what) -> x.fault(what));
        }).that("and ahead of any.", due -> {
            PatchedColumns x = Made.with(1);
            due.is("fault", x.fault(0), NONE);
            due.is("bit", x.fault(1), NONE);
            x.save(0);
            x.open(-1);
            due.is("fault yet", x.fault(0), NONE);
        });
    }
}
