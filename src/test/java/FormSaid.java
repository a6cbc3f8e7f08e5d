/** Terms: columns, blocks, forms, widths, bits, words, and BEST. */
final class FormSaid {
    private static final int NONE = Made.NONE;
    private static final int MIN = Made.MIN;
    private static final int MAX = Made.MAX;

    private FormSaid() {
    }

    static void tell(Sentences said) {
        said.in(Sentences.TERMS);
        limits(said);
        formZero(said);
        formOne(said);
        formTwo(said);
        widths(said);
        bits(said);
        words(said);
        best(said);
    }

    private static PatchedColumns pending(Integer... places) {
        PatchedColumns x = new PatchedColumns();
        for (Integer place : places) {
            if (place == null) {
                x.gap();
            } else {
                x.put(place);
            }
        }
        return x;
    }

    /** 1000 more each time, by turns one less and one more than that. */
    private static PatchedColumns stepping(int first, int by) {
        PatchedColumns x = new PatchedColumns();
        for (int i = 0; i < 16; i++) {
            x.put(first + by * i + i % 2);
        }
        x.flush(0);
        return x;
    }

    private static void told(Due due, PatchedColumns x, int form, int width, int exceptions, int bits) {
        due.is("form", x.block(0, 0, 2), form);
        due.is("width", x.block(0, 0, 3), width);
        due.is("exceptions", x.block(0, 0, 4), exceptions);
        due.is("bits", x.block(0, 0, 5), bits);
    }

    private static void parts(Due due, PatchedColumns x, long... parts) {
        for (int i = 0; i < parts.length; i++) {
            due.is("part " + i, x.part(0, 0, i), parts[i]);
        }
        due.is("no part more", x.part(0, 0, parts.length), NONE);
    }

    private static void hasWords(Due due, PatchedColumns x, Bits bits) {
        due.is("words", x.block(0, 0, 6), bits.size());
        for (int i = 0; i < bits.size(); i++) {
            due.is("word " + i, x.bits(0, 0, i), bits.word(i));
        }
    }

    private static void limits(Sentences said) {
        said.that("COLUMNS 0 .. 2:", due -> {
            PatchedColumns x = new PatchedColumns();
            for (int c = 0; c < 3; c++) {
                Made.block(x, c, c + 40);
            }
            for (int c = 0; c < 3; c++) {
                due.same("column " + c, Made.shown(x, c), (c + 40) + " |");
            }
            new Twins(due, () -> pending(1))
                    .answersEach(NONE, "flush(c)", Made.NO_COLUMNS, (y, c) -> y.flush(c));
        }).that("each has BLOCKS (24 at most) one behind the other,", due -> {
            PatchedColumns x = Made.ones(24);
            due.is("24 blocks", x.column(0, 0), 24);
            for (int i = 0; i < 24; i++) {
                due.is("block " + i, x.base(0, i, 0), i);
                due.is("begins at", x.block(0, i, 7), i);
            }
            x.put(1);
            due.is("the 25th", x.flush(0), NONE);
            due.is("another column has room", x.flush(1), 49);
        }).that("with 1 to 16 PLACES each,", due -> {
            PatchedColumns x = pending(1);
            x.flush(0);
            due.is("one place", x.block(0, 0, 0), 1);
            for (int i = 0; i < 16; i++) {
                x.put(1);
            }
            due.is("no 17th", x.put(1), NONE);
            x.flush(0);
            due.is("16 places", x.block(0, 1, 0), 16);
            due.is("no block of none", x.flush(0), NONE);
        }).that("128 in all at most;", due -> {
            PatchedColumns x = new PatchedColumns();
            for (int c = 0; c < 3; c++) {
                for (int i = 0; i < 8; i++) {
                    due.is("walk", x.walk(c, 0, 0, 16), 1);
                }
                due.is("places", x.column(c, 1), 128);
            }
            x.put(1);
            for (int c = 0; c < 3; c++) {
                due.is("no 129th in " + c, x.flush(c), NONE);
            }
            due.is("of all", x.image(), 3 * 128);
        }).that("a PLACE has a VALUE (an int) or is EMPTY.", due -> {
            PatchedColumns x = Made.with(MIN, null, MAX, 0, -1);
            long[] want = {MIN, Made.EMPTY, MAX, 0, -1};
            for (int i = 0; i < 5; i++) {
                due.is("value " + i, x.value(0, i), want[i]);
            }
        }).that("PENDING: up to 16 PLACES more, of no COLUMN.", due -> {
            PatchedColumns x = Made.full();
            for (int i = 1; i <= 16; i++) {
                due.is("put", x.put(i), i);
            }
            due.is("no 17th", x.put(17), NONE);
            due.is("column 0 has its own", x.column(0, 1), 128);
            due.is("column 1 has none", x.column(1, 1), 0);
        }).that("X: at first 647.", due -> due.is("X", new PatchedColumns().about(3), 647))
        .that("At first no COLUMN has a BLOCK, there is no PENDING.", due -> {
            PatchedColumns x = new PatchedColumns();
            for (int c = 0; c < 3; c++) {
                due.is("blocks", x.column(c, 0), 0);
            }
            due.is("pending", x.about(0), 0);
        });
    }

    private static void formZero(Sentences said) {
        said.that("A BLOCK tells its VALUES (those that aren't EMPTY, in order) by its FORM:", due -> {
            PatchedColumns x = Made.with(null, 0, 3, null, 0, 3);
            told(due, x, 0, 2, 0, 49 + 6 + 8);
            due.is("values", x.block(0, 0, 1), 4);
            parts(due, x, 0, 3, 0, 3);
        }).that("0: BASE the least VALUE", due -> {
            due.is("not the first", Made.with(-4, -7, -4, -7).base(0, 0, 0), -7);
            due.is("the least of all", Made.with(MIN + 3, MIN, MIN + 3, MIN).base(0, 0, 0), MIN);
            due.is("of one", Made.with(null, MAX, null).base(0, 0, 0), MAX);
        }).that("(0 without VALUES), a PART for each:", due -> {
            PatchedColumns x = Made.with(null, null);
            told(due, x, 0, 0, 0, 51);
            due.is("base", x.base(0, 0, 0), 0);
            due.is("values", x.block(0, 0, 1), 0);
            parts(due, x);
        }).that("VALUE less BASE.", due -> {
            PatchedColumns x = Made.with(-4, -7, -4, -7);
            told(due, x, 0, 2, 0, 57);
            parts(due, x, 3, 0, 3, 0);
            x = pending(MIN, MAX);
            due.is("the least one's own", x.narrow(0, 0), 1);
            due.is("the widest", x.narrow(0, 32), 1);
            due.is("bits by width 32", x.total(0, 32), 49 + 64);
            due.is("bits by width 31", x.total(0, 31), 49 + 62 + 5);
        });
    }

    private static void formOne(Sentences said) {
        said.that("1 (of two VALUES or more):", due -> {
            due.is("of none", pending(null, null).total(1, 0), NONE);
            due.is("of one", pending(5).total(1, 0), NONE);
            due.is("of one and gaps", pending(null, 5, null).total(1, 0), NONE);
            due.is("of two", pending(5, 5).total(1, 0), 49);
            due.is("of two and a gap", pending(5, null, 5).total(1, 0), 52);
        }).that("BASE the first VALUE, a PART for each but the first: its DIFFERENCE from the one ahead",
                due -> {
            PatchedColumns x = Made.with(102, 101, null, 100, 101);
            told(due, x, 1, 2, 0, 49 + 5 + 6);
            due.is("base", x.base(0, 0, 0), 102);
            parts(due, x, 1, 1, 2);
        }).that("(32 bits, going round),", due -> {
            PatchedColumns x = Made.with(MAX, MIN);
            told(due, x, 1, 2, 0, 51);
            due.is("base", x.base(0, 0, 0), MAX);
            parts(due, x, 2);
            x = Made.with(MIN, MAX);
            told(due, x, 1, 1, 0, 50);
            parts(due, x, 1);
        }).that("FOLDED: twice it,", due -> {
            PatchedColumns x = new PatchedColumns();
            due.is("0", x.folded(0), 0);
            due.is("1", x.folded(1), 2);
            due.is("1073741824", x.folded(1 << 30), 1L << 31);
            due.is("the greatest", x.folded(MAX), 4294967294L);
        }).that("or (below 0) twice its size less 1.", due -> {
            PatchedColumns x = Made.with(0, MIN);
            due.is("-1", x.folded(-1), 1);
            due.is("-2", x.folded(-2), 3);
            due.is("the least", x.folded(MIN), 4294967295L);
            told(due, x, 1, 32, 0, 81);
            parts(due, x, 4294967295L);
        });
    }

    private static void formTwo(Sentences said) {
        said.that("2 (of two or more):", due -> {
            due.is("of none", pending(null, null).total(2, 0), NONE);
            due.is("of one", pending(5).total(2, 0), NONE);
            due.is("of one and gaps", pending(null, 5, null).total(2, 0), NONE);
            due.is("of two", pending(5, 900).total(2, 0), 81);
            due.is("of two and a gap", pending(5, null, 900).total(2, 0), 84);
        }).that("BASE the first one, STEP the least DIFFERENCE,", due -> {
            PatchedColumns x = stepping(7, 1000);
            told(due, x, 2, 2, 0, 81 + 30);
            due.is("base", x.base(0, 0, 0), 7);
            due.is("step", x.base(0, 0, 1), 999);
            x = stepping(7, -1000);
            told(due, x, 2, 2, 0, 81 + 30);
            due.is("base that isn't the least", x.base(0, 0, 0), 7);
            due.is("step below 0", x.base(0, 0, 1), -1001);
            // 0 down to MIN is MIN, from there to -1 it is MAX: MIN is the least, MAX is 32 bits above.
            x = pending(0, MIN, -1);
            due.is("the least by sign", x.narrow(2, 32), 1);
        }).that("a PART for each but the first: its DIFFERENCE less STEP.", due -> {
            parts(due, stepping(7, 1000), 2, 0, 2, 0, 2, 0, 2, 0, 2, 0, 2, 0, 2, 0, 2);
            parts(due, stepping(7, -1000), 2, 0, 2, 0, 2, 0, 2, 0, 2, 0, 2, 0, 2, 0, 2);
            due.is("of two, 0", pending(5, 900).narrow(2, 0), 1);
        }).that("PARTS are of 32 bits, without sign (0 .. 4294967295).", due -> {
            PatchedColumns x = new Bits().head(2, 0, 32, 0, MIN).parts(32, 0, 4294967295L).fill().onTape();
            due.is("open", x.open(0), 2);
            parts(due, x, 0, 4294967295L);
            due.is("the value by the greatest", x.value(0, 1), MAX);
            x = new Bits().head(3, 1, 32, 0, 0).parts(32, 4294967295L, 4294967294L).fill().onTape();
            due.is("open by form 1", x.open(0), 3);
            parts(due, x, 4294967295L, 4294967294L);
            due.is("the least difference", x.value(0, 1), MIN);
            due.is("the greatest difference", x.value(0, 2), -1);
            x = new Bits().head(2, 2, 32, 0, 0).of(5, 32).of(4294967295L, 32).fill().onTape();
            due.is("open by form 2", x.open(0), 2);
            parts(due, x, 4294967295L);
            due.is("the step and the greatest go round", x.value(0, 1), 4);
            x = pending(0, MIN, -1);
            due.is("0 by form 2", x.narrow(2, 0), 1);
            due.is("the greatest by form 2", x.narrow(2, 32), 1);
            due.is("no other", x.narrow(2, 31), 0);
        });
    }

    private static void widths(Sentences said) {
        said.that("WIDTH w (0 .. 32):", due -> {
            PatchedColumns x = pending(4, 9);
            due.is("0", x.total(0, 0), 49 + 36);
            due.is("32", x.total(0, 32), 49 + 64);
            for (int w : Made.outside(0, 32)) {
                due.is("width " + w, x.total(0, w), NONE);
            }
        }).that("EXCEPTIONS are PARTS of more than w bits;", due -> {
            PatchedColumns x = pending(0, 1, 3, 4, 7, 8);
            due.is("w 0: five", x.total(0, 0), 49 + 5 * 36);
            due.is("w 1: four", x.total(0, 1), 49 + 6 + 4 * 35);
            due.is("w 2: three", x.total(0, 2), 49 + 12 + 3 * 34);
            due.is("w 3: one", x.total(0, 3), 49 + 18 + 33);
            due.is("w 4: none", x.total(0, 4), 49 + 24);
        }).that("there are 15 at most (else that WIDTH can't be).", due -> {
            // By form 0 the least one's own part is 0, by the others there are 15: no 16th can be.
            PatchedColumns x = new PatchedColumns();
            for (int i = 0; i < 16; i++) {
                x.put(i == 3 ? MIN : MAX - i);
            }
            due.is("15 by form 0", x.total(0, 0), 49 + 15 * 36);
            due.is("15 by form 0, w 31", x.total(0, 31), 49 + 16 * 31 + 15 * 5);
            x.forget();
            for (int i = 0; i < 16; i++) {
                x.put(i % 2 * 5);
            }
            due.is("15 by form 1", x.total(1, 0), 49 + 15 * 36);
            due.is("15 by form 1, w 3", x.total(1, 3), 49 + 15 * 3 + 15 * 33);
            due.is("8 by form 2", x.total(2, 0), 81 + 8 * 36);
        });
    }

    private static void bits(Sentences said) {
        said.that("BITS of a BLOCK: 4 (PLACES less 1),", due -> {
            due.is("of one", Made.with(0).bits(0, 0, 0) & 15, 0);
            due.is("of 16", Made.alike(16, 0).bits(0, 0, 0) & 15, 15);
            due.is("bits of 16 alike", Made.alike(16, 0).block(0, 0, 5), 49);
        }).that("1 (1: some PLACE is EMPTY)", due -> {
            due.is("none is", Made.with(0, 0).bits(0, 0, 0) >> 4 & 1, 0);
            due.is("one is", Made.with(0, null).bits(0, 0, 0) >> 4 & 1, 1);
            due.is("all are", Made.with(null, null).bits(0, 0, 0) >> 4 & 1, 1);
        }).that("and then, if that is 1, one for each PLACE (1: it is EMPTY),", due -> {
            PatchedColumns x = Made.with(null, 7, null);
            told(due, x, 0, 0, 0, 52);
            hasWords(due, x, new Bits().masked(3, 5, 0, 0, 0, 7).fill());
            x = new PatchedColumns();
            for (int i = 0; i < 16; i++) {
                x.gap();
            }
            due.is("of 16", x.flush(0), 65);
            hasWords(due, x, new Bits().masked(16, 65535, 0, 0, 0, 0).fill());
            hasWords(due, Made.with(7, 7, 7), new Bits().head(3, 0, 0, 0, 7).fill());
        }).that("2 (FORM), 6 (WIDTH), 4 (how many EXCEPTIONS), 32 (BASE),", due -> {
            PatchedColumns x = Made.with(-9, -8, -9, -8, -9, -8, -9, -8, -9, -8, 992);
            told(due, x, 0, 1, 1, 49 + 11 + 35);
            hasWords(due, x, new Bits().head(11, 0, 1, 1, -9).parts(1, 0, 1, 0, 1, 0, 1, 0, 1, 0, 1, 1)
                    .of(10, 4).of(500, 31).fill());
            x = Made.with(0, MIN);
            hasWords(due, x, new Bits().head(2, 1, 32, 0, 0).of(4294967295L, 32).fill());
        }).that("of FORM 2 32 (STEP),", due ->
            hasWords(due, stepping(7, -1000), new Bits().head(16, 2, 2, 0, 7).of(-1001, 32)
                    .parts(2, 2, 0, 2, 0, 2, 0, 2, 0, 2, 0, 2, 0, 2, 0, 2).fill())
        ).that("w for each PART (its lowest w bits),", due -> {
            hasWords(due, Made.with(6, 9, 7, 9, 6), new Bits().head(5, 0, 2, 0, 6).parts(2, 0, 3, 1, 3, 0)
                    .fill());
            PatchedColumns x = Made.with(0, 1, 0, 1, 0, 1, 0, 1, 0, 1, 1001);
            due.is("an exception's lowest bit", x.bits(0, 0, 1) >>> 27 & 1, 1);
            x.set(0, 10, 1000);
            due.is("another one's lowest bit", x.bits(0, 0, 1) >>> 27 & 1, 0);
        }).that("then for each EXCEPTION, in order, 4 (which PART, from 0) and 32 less w (its other "
                + "bits: the REST).", due -> {
            PatchedColumns x = Made.with(1001, 0, 1, 0, 1, 0, 1, 0, 1, 0, 1, 700);
            told(due, x, 0, 1, 2, 49 + 12 + 70);
            hasWords(due, x, new Bits().head(12, 0, 1, 2, 0).parts(1, 1, 0, 1, 0, 1, 0, 1, 0, 1, 0, 1, 0)
                    .of(0, 4).of(500, 31).of(11, 4).of(350, 31).fill());
        });
    }

    private static void words(Sentences said) {
        said.that("Each of these numbers comes with its lowest bit first, one behind the other, into "
                + "WORDS of 32 bits, each from its lowest bit on;", due -> {
            PatchedColumns x = Made.with(0x12345678);
            due.is("the first word", x.bits(0, 0, 0), 0x12345678 << 17);
            due.is("the second word", x.bits(0, 0, 1), 0x12345678 >>> 15);
        }).that("the last WORD is filled up with 0.", due -> {
            PatchedColumns x = Made.with(-1);
            due.is("17 bits of it", x.bits(0, 0, 1), (1 << 17) - 1);
            due.is("no word more", x.block(0, 0, 6), 2);
            due.is("15 bits filled up", x.filled(0), 15);
            x = new Bits().head(1, 0, 15, 0, -1).of(0, 15).onTape();
            due.is("open 64 bits", x.open(0), 1);
            due.is("two words", x.block(0, 0, 6), 2);
            due.is("nothing to fill", x.filled(0), 0);
        });
    }

    private static void best(Sentences said) {
        said.that("BEST: of FORMS and WIDTHS that can be that with the fewest BITS;", due -> {
            Integer[][] kinds = {
                {3}, {null}, {null, 4}, {0, 1}, {0, -1}, {0, 1 << 30}, {5, null, MIN, MAX}, {MAX, MIN, MAX},
                {10, 20, 30, 1000000}, {0, 3, 0, 3, 0, 900}, {1, 2, 3, 4, 5, 6, 7, 8, 9, 900000000},
                {100000, 200001, 300000, 400001, 500000, 600001, 700000, 800001},
                {7, 7, 7, 7, 7, 7, 7, 7, 7, 7, 7, 7, 7, 7, 7, 8}, {MIN, 0, MAX, 1, -1, 5, 77, -900000},
            };
            for (Integer[] kind : kinds) {
                PatchedColumns x = pending(kind);
                int fewest = MAX;
                for (int form = 0; form < 3; form++) {
                    for (int width = 0; width <= 32; width++) {
                        int total = x.total(form, width);
                        fewest = total == NONE ? fewest : Math.min(fewest, total);
                    }
                }
                due.is("fewest", x.best(2), fewest);
                due.is("by that form and width", x.total(x.best(0), x.best(1)), fewest);
                int form = x.best(0);
                int width = x.best(1);
                due.is("flushed so", x.flush(0), fewest);
                due.is("of that form", x.block(0, 0, 2), form);
                due.is("of that width", x.block(0, 0, 3), width);
            }
        }).that("of like ones the lower FORM,", due -> {
            PatchedColumns x = pending(0, 0, 0, 0, 0, 8, 8, 8, 8);
            due.is("by form 0", x.total(0, 4), 85);
            due.is("as many by form 1 and a lower width", x.total(1, 0), 85);
            due.is("form", x.best(0), 0);
            due.is("width", x.best(1), 4);
            x = pending(0, MIN);
            due.is("by form 1", x.total(1, 32), 81);
            due.is("as many by form 2 and a lower width", x.total(2, 0), 81);
            due.is("form", x.best(0), 1);
            due.is("width", x.best(1), 32);
        }).that("then the lower WIDTH.", due -> {
            PatchedColumns x = pending(0, 0, 0, 0, 0, 0, 0, 0, 0, 0, 0, 7);
            due.is("by width 0", x.total(0, 0), 85);
            due.is("as many by width 3", x.total(0, 3), 85);
            due.is("form", x.best(0), 0);
            due.is("width", x.best(1), 0);
            due.is("exceptions", x.best(3), 1);
        });
    }
}
