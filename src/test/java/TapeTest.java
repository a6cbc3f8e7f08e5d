/** Promises 20 to 25: words taken to a tape and back, and what is refused there. */
final class TapeTest {
    private static final Due due = new Due();

    public static void main(String[] args) {
        word();
        end();
        save();
        open();
        openAsTold();
        openTheStepAsTold();
        fault();
        endsWithin();
        wrongForm();
        wrongWidth();
        wrongExceptions();
        wrongWhich();
        notAsTold();
        wrongFilling();
        tooMany();
        theFirstFault();
        due.end("TapeTest");
    }

    private static void refused(String what, Bits bits, int fault, int bit) {
        PatchedColumns x = bits.onTape();
        Made.block(x, 1, 4, 5);
        due.is(what + ": open", x.open(1), Made.NONE);
        due.is(what + ": fault", x.fault(0), fault);
        due.is(what + ": bit", x.fault(1), bit);
        due.is(what + ": the tape is empty", x.about(2), 0);
        due.is(what + ": no step", x.about(1), 1);
        due.yes(what + ": the column stays", Made.shown(x, 1).equals("4 5 |"));
    }

    private static PatchedColumns taken(String what, Bits bits, String shown) {
        PatchedColumns x = bits.onTape();
        int places = x.open(0);
        due.is(what + ": places", places, x.column(0, 1));
        due.is(what + ": fault", x.fault(0), 0);
        due.is(what + ": bit", x.fault(1), Made.NONE);
        due.is(what + ": a step", x.about(1), 1);
        String got = Made.shown(x, 0);
        due.yes(what + " is " + got + ", due is " + shown, got.equals(shown));
        return x;
    }

    private static void word() {
        PatchedColumns x = new PatchedColumns();
        for (int i = 1; i <= 400; i++) {
            due.is("word " + i, x.word(i * 7), i);
        }
        due.is("the 401st word", x.word(1), Made.NONE);
        due.is("400 words", x.about(2), 400);
        due.is("tape(0)", x.tape(0), 7);
        due.is("tape(399)", x.tape(399), 2800);
        due.is("tape(400)", x.tape(400), 0);
        due.is("tape(-1)", x.tape(-1), 0);
        due.is("tape(MIN)", x.tape(Made.MIN), 0);
        due.is("tape(MAX)", x.tape(Made.MAX), 0);
        due.is("no step", x.about(1), 0);
    }

    private static void end() {
        PatchedColumns x = new PatchedColumns();
        due.yes("end(0) of none", x.end(0));
        due.no("end(1) of none", x.end(1));
        Made.words(x, 5, 6, 7);
        due.no("end(4)", x.end(4));
        due.no("end(-1)", x.end(-1));
        due.no("end(MIN)", x.end(Made.MIN));
        due.is("they stay", x.about(2), 3);
        due.yes("end(3)", x.end(3));
        due.yes("end(1)", x.end(1));
        due.is("one", x.about(2), 1);
        due.is("tape(0)", x.tape(0), 5);
        due.is("tape(1)", x.tape(1), 0);
        due.is("word then", x.word(9), 2);
        due.is("tape(1)", x.tape(1), 9);
    }

    private static void save() {
        PatchedColumns x = new PatchedColumns();
        Made.words(x, 1, 2, 3);
        for (int c : Made.NO_COLUMNS) {
            due.is("save " + c, x.save(c), Made.NONE);
        }
        due.is("the tape stays", x.about(2), 3);
        due.is("save of none", x.save(0), 0);
        due.is("the tape is empty", x.about(2), 0);
        // 1 and a gap and 4: parts 0, 3 by width 2 have more bits than the folded 6 by width 3.
        Made.block(x, 0, 1, null, 4);
        Made.block(x, 0, -1);
        due.is("save", x.save(0), 4);
        Bits bits = new Bits();
        bits.of(2, 4).of(1, 1).of(2, 3).of(1, 2).of(3, 6).of(0, 4).of(1, 32).of(6, 3).fill();
        bits.head(1, 0, 0, 0, -1).fill();
        for (int i = 0; i < 4; i++) {
            due.is("word " + i, x.tape(i), bits.word(i));
        }
        due.is("no step", x.about(1), 2);
        x = new PatchedColumns();
        for (int i = 0; i < 16; i++) {
            x.put(i == 9 ? 70000 : i * 100 + i % 2);
        }
        // Differences 101, 99, ..: then 69199 and -69000: form 2 has a step of -69000.
        x.flush(0);
        due.is("patched form", x.block(0, 0, 2), 1);
        due.is("patched exceptions", x.block(0, 0, 4), 2);
        bits = new Bits().head(16, 1, 8, 2, 0);
        long[] parts = new long[15];
        for (int i = 0; i < 15; i++) {
            parts[i] = i == 8 ? 2 * 69200L : i == 9 ? 2 * 69000L - 1 : i % 2 == 0 ? 202 : 198;
        }
        for (long part : parts) {
            bits.of(part, 8);
        }
        bits.of(8, 4).of(parts[8] >> 8, 24).of(9, 4).of(parts[9] >> 8, 24).fill();
        due.is("words", x.save(0), bits.size());
        for (int i = 0; i < bits.size(); i++) {
            due.is("patched word " + i, x.tape(i), bits.word(i));
            due.is("bits " + i, x.bits(0, 0, i), bits.word(i));
        }
        x = Made.full();
        due.is("save all", x.save(0), x.column(0, 4));
        due.is("open all", x.open(1), 128);
        due.yes("they are alike", x.alike(0, 1));
    }

    private static void open() {
        PatchedColumns x = taken("an empty tape", new Bits(), "");
        Made.block(x, 0, 3);
        due.is("open an empty tape", x.open(0), 0);
        due.is("no blocks", x.column(0, 0), 0);
        Made.words(x, 1, 2, 3);
        int fault = x.fault(0);
        for (int c : Made.NO_COLUMNS) {
            due.is("open into " + c, x.open(c), -2);
        }
        due.is("the tape stays", x.about(2), 3);
        due.is("the fault stays", x.fault(0), fault);
        taken("form 0", new Bits().head(3, 0, 4, 0, -9).of(2, 4).of(0, 4).of(15, 4).fill(),
                "-7 -9 6 |");
        taken("form 1", new Bits().head(3, 1, 4, 0, 5).of(4, 4).of(3, 4).fill(), "5 7 5 |");
        taken("form 2", new Bits().head(3, 2, 4, 0, 5).of(-3, 32).of(4, 4).of(0, 4).fill(),
                "5 6 3 |");
        taken("exceptions", new Bits().head(3, 0, 4, 2, 5).of(1, 4).of(0, 4).of(2, 4)
                .of(0, 4).of(1, 28).of(2, 4).of(2, 28).fill(), "22 5 39 |");
        taken("a mask", new Bits().of(2, 4).of(1, 1).of(5, 3).of(0, 2).of(0, 6).of(0, 4)
                .of(8, 32).fill(), "_ 8 _ |");
        PatchedColumns two = taken("two blocks", new Bits().head(1, 0, 0, 0, 5).fill()
                .head(1, 0, 0, 0, 6).fill(), "5 | 6 |");
        due.is("bits of the first", two.block(0, 0, 5), 49);
        due.is("bits of the second", two.block(0, 1, 5), 49);
        taken("gaps alone, of any width", new Bits().of(0, 4).of(1, 1).of(1, 1).of(0, 2).of(32, 6)
                .of(0, 4).of(0, 32).fill(), "_ |");
        taken("going round", new Bits().head(2, 1, 32, 0, Made.MAX).of(2, 32).fill(),
                "2147483647 -2147483648 |");
        taken("the widest", new Bits().head(2, 0, 32, 0, Made.MIN).of(0, 32).of(4294967295L, 32)
                .fill(), "-2147483648 2147483647 |");
    }

    private static void openAsTold() {
        PatchedColumns x = taken("width 5", new Bits().head(2, 0, 5, 0, 7).of(0, 5).of(3, 5).fill(),
                "7 10 |");
        due.is("form as told", x.block(0, 0, 2), 0);
        due.is("width as told", x.block(0, 0, 3), 5);
        due.is("bits as told", x.block(0, 0, 5), 59);
        due.is("waste", x.column(0, 5), 59 - 52);
        x = taken("an exception", new Bits().head(2, 0, 0, 1, 7).of(1, 4).of(3, 32).fill(),
                "7 10 |");
        due.is("exceptions as told", x.block(0, 0, 4), 1);
        due.yes("patched", x.patched(0, 1));
        due.no("not patched", x.patched(0, 0));
        due.is("part", x.part(0, 0, 1), 3);
        due.is("words are the same again", x.save(0), 3);
        due.is("word 0", x.tape(0), x.bits(0, 0, 0));
        due.is("open again", x.open(1), 2);
        due.is("exceptions again", x.block(1, 0, 4), 1);
    }

    private static void openTheStepAsTold() {
        // The step 4 isn't the least difference, 5; the next one, 2, is below it and goes round.
        Bits bits = new Bits().head(3, 2, 32, 0, 10).of(4, 32).of(1, 32).of(4294967294L, 32).fill();
        PatchedColumns x = taken("a step of its own", bits, "10 15 17 |");
        due.is("step", x.base(0, 0, 1), 4);
        due.is("base", x.base(0, 0, 0), 10);
        due.is("part 0", x.part(0, 0, 0), 1);
        due.is("part 1", x.part(0, 0, 1), 4294967294L);
        due.is("bits", x.block(0, 0, 5), 81 + 64);
        x.save(0);
        for (int i = 0; i < bits.size(); i++) {
            due.is("word " + i + " again", x.tape(i), bits.word(i));
        }
        due.is("set as it is", x.set(0, 0, 10), 49 + 8);
        due.is("no step any more", x.base(0, 0, 1), 0);
    }

    private static void fault() {
        PatchedColumns x = new PatchedColumns();
        for (int what = -1; what <= 2; what++) {
            due.is("fault(" + what + ") ahead of any", x.fault(what), Made.NONE);
        }
        x.open(3);
        due.is("fault(0) ahead of any yet", x.fault(0), Made.NONE);
        x.open(0);
        due.is("fault(0) without", x.fault(0), 0);
        due.is("fault(1) without", x.fault(1), Made.NONE);
        x.word(0);
        x.open(0);
        due.is("fault(0)", x.fault(0), 1);
        due.is("fault(1)", x.fault(1), 17);
        due.is("fault(2)", x.fault(2), Made.NONE);
        due.is("fault(-1)", x.fault(-1), Made.NONE);
        x.undo();
        due.is("undo leaves it", x.fault(0), 1);
        x.back();
        due.is("back leaves it", x.fault(0), 1);
        x.open(0);
        due.is("the latest one", x.fault(0), 0);
    }

    private static void endsWithin() {
        Bits whole = new Bits().head(16, 0, 32, 0, 0);
        refused("within the parts", new Bits().head(16, 0, 32, 0, 0).fill(), 1, 49);
        refused("within the second part", whole.of(0, 32).fill(), 1, 81);
        refused("within the base", new Bits().of(0, 32), 1, 17);
        // 16 places with a mask: the exceptions begin at bit 29.
        refused("within the exceptions", new Bits().of(15, 4).of(1, 1).of(1, 16).of(0, 11), 1, 29);
        refused("within the step", new Bits().of(1, 4).of(0, 1).of(2, 2).of(0, 25).of(0, 32), 1, 49);
        // Width 15, one part: 49 and 15 are 64 bits; which part begins where the tape ends.
        refused("at the very end", new Bits().head(1, 0, 15, 1, 0).of(0, 15), 1, 64);
        refused("within a rest", new Bits().head(1, 0, 0, 1, 0).of(0, 4).fill(), 1, 53);
        refused("within the second block", new Bits().head(1, 0, 0, 0, 0).fill().of(0, 32), 1, 81);
    }

    private static void wrongForm() {
        refused("form 3", new Bits().head(2, 3, 0, 0, 0).fill(), 2, 5);
        refused("form 1 of one", new Bits().head(1, 1, 0, 0, 0).fill(), 2, 5);
        refused("form 2 of one", new Bits().head(1, 2, 0, 0, 0).of(0, 32).fill(), 2, 5);
        refused("form 1 of one and a gap", new Bits().of(1, 4).of(1, 1).of(1, 2).of(1, 2).of(0, 55),
                2, 7);
        refused("in the second block", new Bits().head(1, 0, 0, 0, 5).fill().head(2, 3, 0, 0, 0)
                .fill(), 2, 69);
    }

    private static void wrongWidth() {
        refused("width 33", new Bits().head(1, 0, 33, 0, 0).fill(), 3, 7);
        refused("width 63", new Bits().head(1, 0, 63, 0, 0).fill(), 3, 7);
        refused("width 33 with a mask", new Bits().of(1, 4).of(1, 1).of(1, 2).of(0, 2).of(33, 6)
                .of(0, 49), 3, 9);
    }

    private static void wrongExceptions() {
        refused("more than parts", new Bits().head(1, 0, 0, 2, 0).of(0, 60), 4, 13);
        refused("more than parts by form 1", new Bits().head(2, 1, 0, 2, 0).of(0, 60), 4, 13);
        refused("more than parts of gaps", new Bits().of(0, 4).of(1, 1).of(1, 1).of(0, 2).of(0, 6)
                .of(1, 4).of(0, 46), 4, 14);
        refused("any by width 32", new Bits().head(2, 0, 32, 1, 0).of(0, 79), 4, 13);
    }

    private static void wrongWhich() {
        refused("none such", new Bits().head(2, 0, 0, 1, 0).of(2, 4).of(1, 32).fill(), 5, 49);
        refused("none such by form 1", new Bits().head(2, 1, 0, 1, 0).of(1, 4).of(1, 32).fill(),
                5, 49);
        refused("not above", new Bits().head(4, 0, 0, 2, 0).of(1, 4).of(1, 32).of(1, 4).of(1, 32)
                .fill(), 5, 85);
        refused("below", new Bits().head(4, 0, 0, 2, 0).of(2, 4).of(1, 32).of(1, 4).of(1, 32)
                .fill(), 5, 85);
        taken("the first one of the next block", new Bits()
                .head(2, 0, 0, 1, 0).of(1, 4).of(1, 32).fill()
                .head(2, 0, 0, 1, 0).of(0, 4).of(1, 32).fill(), "0 1 | 1 0 |");
    }

    private static void notAsTold() {
        refused("a rest of 0", new Bits().head(2, 0, 3, 1, 0).of(0, 3).of(0, 3).of(1, 4).of(0, 29)
                .fill(), 6, 59);
        refused("a mask without a gap", new Bits().of(2, 4).of(1, 1).of(0, 3).of(0, 56), 6, 5);
        refused("a base that isn't the least", new Bits().head(2, 0, 2, 0, 5).of(1, 2).of(2, 2)
                .fill(), 6, 17);
        refused("a base without values", new Bits().of(0, 4).of(1, 1).of(1, 1).of(0, 2).of(0, 6)
                .of(0, 4).of(7, 32).fill(), 6, 18);
        refused("a value goes round below the base", new Bits().head(2, 0, 2, 0, Made.MAX).of(0, 2)
                .of(1, 2).fill(), 6, 17);
        refused("told once all exceptions are read", new Bits().head(2, 0, 0, 2, 5).of(0, 4)
                .of(1, 32).of(1, 4).of(0, 32).fill(), 6, 89);
        refused("the base with exceptions", new Bits().head(1, 0, 0, 1, 5).of(0, 4).of(1, 32).fill(),
                6, 17);
    }

    private static void wrongFilling() {
        refused("the first bit", new Bits().head(1, 0, 0, 0, 5).of(1, 15), 7, 49);
        refused("the last bit", new Bits().head(1, 0, 0, 0, 5).of(1 << 14, 15), 7, 49);
        refused("in the second block", new Bits().head(1, 0, 0, 0, 5).fill().head(1, 0, 1, 0, 5)
                .of(0, 1).of(4, 14), 7, 114);
        taken("nothing to fill", new Bits().head(1, 0, 15, 0, 5).of(0, 15), "5 |");
    }

    private static void tooMany() {
        Bits bits = new Bits();
        StringBuilder shown = new StringBuilder();
        for (int i = 0; i < 24; i++) {
            bits.head(1, 0, 0, 0, i).fill();
            shown.append(i).append(" | ");
        }
        taken("24 blocks", bits, shown.toString().trim());
        refused("the 25th block", bits.of(0, 32), 8, 24 * 64);
        bits = new Bits();
        for (int i = 0; i < 8; i++) {
            bits.head(i == 7 ? 15 : 16, 0, 0, 0, 3).fill();
        }
        due.is("127 places", bits.onTape().open(0), 127);
        refused("129 places", bits.of(1 | 3 << 5, 32), 8, 8 * 64);
    }

    private static void theFirstFault() {
        refused("the mask ahead of the form", new Bits().of(0, 4).of(1, 1).of(0, 1).of(3, 2).of(0, 56),
                6, 5);
        refused("the form ahead of the width", new Bits().head(1, 3, 40, 3, 0).fill(), 2, 5);
        refused("the width ahead of the exceptions", new Bits().head(1, 0, 40, 3, 0).fill(), 3, 7);
        refused("the exceptions ahead of the end", new Bits().of(0, 13).of(3, 4).of(0, 15), 4, 13);
        refused("the base ahead of the filling", new Bits().head(1, 0, 1, 0, 5).of(1, 1).of(1, 14),
                6, 17);
        refused("which part ahead of the end", new Bits().head(1, 0, 0, 1, 0).of(1, 4).fill(), 5, 49);
    }
}
