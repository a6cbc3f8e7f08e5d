import java.util.Arrays;

/**
 * Columns of whole numbers in few bits: blocks with a base and a narrow width, whose wider parts
 * are patched from a list. The document DOC.md says what each call answers, as numbered promises.
 */
public final class PatchedColumns {
    public static final int NONE = -1;

    private static final int COLUMNS = 3;
    private static final int MOST_BLOCKS = 24;
    private static final int MOST_PLACES = 128;
    private static final int BLOCK_PLACES = 16;
    private static final int FORMS = 3;
    private static final int FORM_OF_FOLDED = 1;
    private static final int FORM_OF_STEPS = 2;
    private static final int WIDEST = 32;
    private static final int MOST_EXCEPTIONS = 15;
    private static final int WORD_BITS = 32;
    private static final int MOST_WORDS = 400;
    private static final int MOST_STEPS = 20;
    private static final int MOST_WALKED = 48;
    private static final int MOST_SPREAD = 99999;
    private static final int FIRST_X = 647;
    private static final int X_ENDS = 29989;
    private static final int REFUSED = -2;
    private static final long EMPTY_PLACE = 4294967296L;
    private static final long NO_PLACE = -4294967296L;

    private static final int PLACES_BITS = 4;
    private static final int MASKED_BITS = 1;
    private static final int FORM_BITS = 2;
    private static final int WIDTH_BITS = 6;
    private static final int EXCEPTIONS_BITS = 4;
    private static final int WHICH_BITS = 4;
    private static final int HEAD_BITS =
            PLACES_BITS + MASKED_BITS + FORM_BITS + WIDTH_BITS + EXCEPTIONS_BITS + WORD_BITS;

    // The facts that a column keeps of each block; the first six stand as promise 28 numbers them.
    private static final int PLACES = 0;
    private static final int VALUES = 1;
    private static final int FORM = 2;
    private static final int WIDTH = 3;
    private static final int EXCEPTIONS = 4;
    private static final int BITS = 5;
    private static final int BASE = 6;
    private static final int STEP = 7;
    private static final int FACTS = 8;

    private static final int ENDS_WITHIN = 1;
    private static final int WRONG_FORM = 2;
    private static final int WRONG_WIDTH = 3;
    private static final int WRONG_EXCEPTIONS = 4;
    private static final int WRONG_WHICH = 5;
    private static final int NOT_AS_TOLD = 6;
    private static final int WRONG_FILLING = 7;
    private static final int TOO_MANY = 8;

    private final State now;
    private final History history;
    private final State imageState;
    private final History imageHistory;
    private final Tape tape;
    private final Measure measure;
    private final Scribe scribe;
    private final Opener opener;
    private final Cutter cutter;
    private final Column spare;
    private boolean opened;

    public PatchedColumns() {
        now = new State();
        history = new History();
        imageState = new State();
        imageHistory = new History();
        tape = new Tape();
        measure = new Measure();
        scribe = new Scribe();
        opener = new Opener(tape);
        cutter = new Cutter();
        spare = new Column();
    }

    public int put(int value) {
        return comeBehindPending(value);
    }

    public int gap() {
        return comeBehindPending(EMPTY_PLACE);
    }

    public int forget() {
        int held = now.pending.held;
        now.pending.held = 0;
        return held;
    }

    public int flush(int column) {
        Column chosen = columnAt(column);
        int held = now.pending.held;
        if (chosen == null || held == 0 || !chosen.hasRoom(held, 1)) {
            return NONE;
        }
        history.keep(now);
        chosen.row.appendFrom(now.pending, 0, held);
        now.pending.held = 0;
        chosen.seal(measure);
        return chosen.fact(chosen.blocks - 1, BITS);
    }

    public int set(int column, int place, int value) {
        return change(column, place, value);
    }

    public int clear(int column, int place) {
        return change(column, place, EMPTY_PLACE);
    }

    public int insert(int column, int place, int value) {
        Column chosen = columnAt(column);
        if (chosen == null || !chosen.canEnter(place)) {
            return NONE;
        }
        history.keep(now);
        chosen.enter(measure, place, value);
        return chosen.all(BITS);
    }

    public int remove(int column, int place) {
        Column chosen = columnAt(column);
        if (chosen == null || !chosen.row.has(place)) {
            return NONE;
        }
        history.keep(now);
        chosen.takeOut(measure, place);
        return chosen.all(BITS);
    }

    public int split(int column, int block, int n) {
        Column chosen = columnAt(column);
        if (chosen == null || chosen.blocks >= MOST_BLOCKS || n < 1
                || n >= chosen.fact(block, PLACES)) {
            return NONE;
        }
        history.keep(now);
        chosen.cutInTwo(measure, block, n);
        return chosen.fact(block, BITS) + chosen.fact(block + 1, BITS);
    }

    public int shift(int column, int by) {
        Column chosen = columnAt(column);
        if (chosen == null) {
            return NONE;
        }
        history.keep(now);
        chosen.row.raise(by);
        chosen.retellAll(measure);
        return chosen.all(BITS);
    }

    public int merge(int one, int other, int into) {
        Column first = columnAt(one);
        Column second = columnAt(other);
        Column target = columnAt(into);
        if (first == null || second == null || target == null) {
            return NONE;
        }
        if (!first.row.isSorted() || !second.row.isSorted()
                || first.all(VALUES) + second.all(VALUES) > MOST_PLACES) {
            return NONE;
        }
        history.keep(now);
        // The target may be one of the two, so what comes is gathered aside.
        spare.empty();
        spare.row.appendBySize(first.row, second.row);
        spare.seal(measure);
        target.mirror(spare);
        return target.row.held;
    }

    public int copy(int column, int from, int to, int into) {
        Column source = columnAt(column);
        Column target = columnAt(into);
        if (source == null || target == null || !source.row.spans(from, to) || from == to
                || !target.hasRoom(to - from, blocksFor(to - from))) {
            return NONE;
        }
        history.keep(now);
        target.row.appendFrom(source.row, from, to);
        return target.seal(measure);
    }

    public boolean swap(int one, int other) {
        if (columnAt(one) == null || columnAt(other) == null || one == other) {
            return false;
        }
        history.keep(now);
        now.exchange(one, other);
        return true;
    }

    public int drop(int column, int block) {
        Column chosen = columnAt(column);
        if (chosen == null || !chosen.hasBlock(block)) {
            return NONE;
        }
        history.keep(now);
        int places = chosen.fact(block, PLACES);
        chosen.dropBlock(block);
        return places;
    }

    public int join(int column) {
        Column chosen = columnAt(column);
        if (chosen == null) {
            return NONE;
        }
        history.keep(now);
        return chosen.joinBlocks(measure);
    }

    public int recut(int column) {
        Column chosen = withBlocks(column);
        if (chosen == null) {
            return NONE;
        }
        history.keep(now);
        cutter.plan(chosen.row, measure);
        chosen.cutBy(measure, cutter);
        return chosen.all(BITS);
    }

    public int walk(int column, int from, int spread, int n) {
        Column chosen = columnAt(column);
        if (chosen == null || spread < 0 || spread > MOST_SPREAD || n < 1 || n > MOST_WALKED
                || !chosen.hasRoom(n, blocksFor(n))) {
            return NONE;
        }
        history.keep(now);
        now.walkInto(chosen.row, from, spread, n);
        return chosen.seal(measure);
    }

    public boolean tell(int x) {
        if (x < 0 || x >= X_ENDS) {
            return false;
        }
        now.x = x;
        return true;
    }

    public int word(int bits) {
        return tape.append(bits) ? tape.held : NONE;
    }

    public boolean end(int n) {
        if (n < 0 || n > tape.held) {
            return false;
        }
        tape.held = n;
        return true;
    }

    public int tape(int i) {
        return tape.has(i) ? tape.words[i] : 0;
    }

    public int save(int column) {
        Column chosen = columnAt(column);
        if (chosen == null) {
            return NONE;
        }
        tape.held = 0;
        for (int block = 0; block < chosen.blocks; block++) {
            scribe.write(chosen, block, measure);
            scribe.sendTo(tape);
        }
        return tape.held;
    }

    public int open(int column) {
        Column chosen = columnAt(column);
        if (chosen == null) {
            return REFUSED;
        }
        opened = true;
        boolean whole = opener.openAll(spare);
        tape.held = 0;
        if (!whole) {
            return NONE;
        }
        history.keep(now);
        chosen.mirror(spare);
        return chosen.row.held;
    }

    public int fault(int what) {
        if (!opened) {
            return NONE;
        }
        switch (what) {
            case 0:
                return opener.kind;
            case 1:
                return opener.where;
            default:
                return NONE;
        }
    }

    public int undo() {
        return history.takeBack(now) ? history.held : NONE;
    }

    public int column(int column, int what) {
        Column chosen = columnAt(column);
        if (chosen == null) {
            return NONE;
        }
        switch (what) {
            case 0:
                return chosen.blocks;
            case 1:
                return chosen.row.held;
            case 2:
                return chosen.all(VALUES);
            case 3:
                return chosen.all(BITS);
            case 4:
                return chosen.allWords();
            case 5:
                return chosen.all(BITS) - chosen.bitsByBest(measure);
            case 6:
                return chosen.all(EXCEPTIONS);
            default:
                return NONE;
        }
    }

    public int block(int column, int block, int what) {
        Column chosen = withBlock(column, block);
        if (chosen == null || what < 0) {
            return NONE;
        }
        if (what <= BITS) {
            return chosen.fact(block, what);
        }
        switch (what) {
            case 6:
                return chosen.wordsOf(block);
            case 7:
                return chosen.firstOf(block);
            default:
                return NONE;
        }
    }

    public int like(int column, int form, int width) {
        Column chosen = columnAt(column);
        if (chosen == null || form < NONE || form >= FORMS || width < NONE || width > WIDEST) {
            return NONE;
        }
        return chosen.blocksOf(form, width);
    }

    public int filled(int column) {
        Column chosen = columnAt(column);
        if (chosen == null) {
            return NONE;
        }
        return chosen.allWords() * WORD_BITS - chosen.all(BITS);
    }

    public int empties(int column, int from, int to) {
        Column chosen = columnAt(column);
        if (chosen == null || !chosen.row.spans(from, to)) {
            return NONE;
        }
        return chosen.row.vacantWithin(from, to);
    }

    public int base(int column, int block, int what) {
        Column chosen = withBlock(column, block);
        if (chosen == null) {
            return 0;
        }
        switch (what) {
            case 0:
                return chosen.fact(block, BASE);
            case 1:
                return chosen.fact(block, STEP);
            default:
                return 0;
        }
    }

    public int bits(int column, int block, int i) {
        Column chosen = withBlock(column, block);
        if (chosen == null) {
            return 0;
        }
        scribe.write(chosen, block, measure);
        return scribe.wordAt(i);
    }

    public long bound(int column, int block, boolean high) {
        Column chosen = withBlock(column, block);
        if (chosen == null || chosen.fact(block, FORM) != 0 || chosen.fact(block, VALUES) == 0) {
            return NO_PLACE;
        }
        if (!high) {
            return chosen.fact(block, BASE);
        }
        return chosen.fact(block, EXCEPTIONS) > 0 ? Integer.MAX_VALUE
                : Math.min(chosen.reachOf(block), Integer.MAX_VALUE);
    }

    public long value(int column, int place) {
        Column chosen = columnAt(column);
        return chosen == null ? NO_PLACE : chosen.row.tellAt(place);
    }

    public int blockOf(int column, int place) {
        Column chosen = columnAt(column);
        return chosen == null ? NONE : chosen.holderOf(place);
    }

    public int read(int column, int place) {
        Column chosen = withPlace(column, place);
        if (chosen == null) {
            return NONE;
        }
        if (!chosen.row.isFull(place)) {
            return 0;
        }
        int block = chosen.holderOf(place);
        return chosen.fact(block, FORM) == 0 ? 1 : chosen.valuesAhead(block, place);
    }

    public boolean patched(int column, int place) {
        Column chosen = withPlace(column, place);
        if (chosen == null || !chosen.row.isFull(place)) {
            return false;
        }
        int block = chosen.holderOf(place);
        int which = chosen.valuesAhead(block, place);
        if (chosen.fact(block, FORM) != 0) {
            which--;
        }
        chosen.measureAsTold(measure, block);
        return measure.isOver(which, chosen.fact(block, WIDTH));
    }

    public long part(int column, int block, int i) {
        Column chosen = withBlock(column, block);
        if (chosen == null) {
            return NONE;
        }
        chosen.measureAsTold(measure, block);
        return measure.hasPart(i) ? unsigned(measure.parts[i]) : NONE;
    }

    public long pending(int i) {
        return now.pending.tellAt(i);
    }

    public int total(int form, int width) {
        if (!measurePending(form) || width < 0 || width > WIDEST) {
            return NONE;
        }
        measure.spread(form);
        return measure.overAt(width) > MOST_EXCEPTIONS ? NONE : measure.bitsBy(form, width);
    }

    public int best(int what) {
        if (!measurePending(0)) {
            return NONE;
        }
        measure.choose();
        switch (what) {
            case 0:
                return measure.bestForm;
            case 1:
                return measure.bestWidth;
            case 2:
                return measure.bestBits;
            case 3:
                return measure.bestOver;
            default:
                return NONE;
        }
    }

    public int narrow(int form, int bits) {
        if (!measurePending(form) || bits < 0 || bits > WIDEST) {
            return NONE;
        }
        measure.spread(form);
        return measure.lengths[bits];
    }

    public int least(int column) {
        Column chosen = withBlocks(column);
        if (chosen == null) {
            return NONE;
        }
        cutter.plan(chosen.row, measure);
        return cutter.fewest;
    }

    public int cuts(int column, int i) {
        Column chosen = withBlocks(column);
        if (chosen == null || i < NONE || i >= MOST_BLOCKS) {
            return NONE;
        }
        cutter.plan(chosen.row, measure);
        if (i == NONE) {
            return cutter.blocks;
        }
        return i < cutter.blocks ? cutter.sizes[i] : NONE;
    }

    public int evenly(int column, int n) {
        Column chosen = columnAt(column);
        if (chosen == null || n < 1 || n > BLOCK_PLACES) {
            return NONE;
        }
        return measure.bitsInBlocksOf(chosen.row, n);
    }

    public int evenest(int column) {
        Column chosen = withBlocks(column);
        if (chosen == null) {
            return NONE;
        }
        int found = 1;
        int fewest = Integer.MAX_VALUE;
        for (int n = 1; n <= BLOCK_PLACES; n++) {
            int bits = measure.bitsInBlocksOf(chosen.row, n);
            if (bits < fewest) {
                fewest = bits;
                found = n;
            }
        }
        return found;
    }

    public int heaviest(int column) {
        Column chosen = withBlocks(column);
        return chosen == null ? NONE : chosen.heaviestBlock();
    }

    public long folded(int difference) {
        return unsigned(fold(difference));
    }

    public long difference(int column, int place) {
        Column chosen = columnAt(column);
        return chosen == null ? NO_PLACE : chosen.row.differenceAt(place);
    }

    public int would(int column, int place, int value) {
        Column chosen = withPlace(column, place);
        return chosen == null ? NONE : chosen.bitsWith(measure, place, value);
    }

    public boolean sorted(int column) {
        Column chosen = columnAt(column);
        return chosen != null && chosen.row.isSorted();
    }

    public int find(int column, int value) {
        Column chosen = sortedColumn(column);
        return chosen == null ? REFUSED : chosen.row.firstFrom(value);
    }

    public int looks(int column, int value) {
        Column chosen = sortedColumn(column);
        return chosen == null ? REFUSED : chosen.looksFor(value);
    }

    public long sum(int column, int from, int to) {
        Column chosen = columnAt(column);
        if (chosen == null || !chosen.row.spans(from, to)) {
            return 0;
        }
        return chosen.row.together(from, to);
    }

    public int count(int column, int low, int high) {
        Column chosen = columnAt(column);
        return chosen == null ? NONE : chosen.row.howManyWithin(low, high);
    }

    public int skipped(int column, int low, int high) {
        Column chosen = columnAt(column);
        return chosen == null ? NONE : chosen.blocksOutside(low, high);
    }

    public long ranked(int column, int k) {
        Column chosen = columnAt(column);
        return chosen == null ? NO_PLACE : chosen.row.bySize(k);
    }

    public int distinct(int column) {
        Column chosen = columnAt(column);
        return chosen == null ? NONE : chosen.row.howManyUnlike();
    }

    public int run(int column) {
        Column chosen = columnAt(column);
        return chosen == null ? NONE : chosen.row.longestRun();
    }

    public int unlike(int column, int other) {
        Column one = columnAt(column);
        Column two = columnAt(other);
        if (one == null || two == null) {
            return NONE;
        }
        return one.row.firstUnlike(two.row);
    }

    public boolean alike(int column, int other) {
        Column one = columnAt(column);
        Column two = columnAt(other);
        return one != null && two != null && one.row.firstUnlike(two.row) == NONE;
    }

    public long ratio(int column) {
        Column chosen = withBlocks(column);
        if (chosen == null || chosen.row.held == 0) {
            return 0;
        }
        double places = chosen.row.held;
        return bitsOfDouble(chosen.all(BITS) / (32.0 * places));
    }

    public int image() {
        imageState.mirror(now);
        imageHistory.mirror(history);
        return now.allPlaces();
    }

    public int back() {
        now.mirror(imageState);
        history.mirror(imageHistory);
        return now.allPlaces();
    }

    public int about(int what) {
        switch (what) {
            case 0:
                return now.pending.held;
            case 1:
                return history.held;
            case 2:
                return tape.held;
            case 3:
                return now.x;
            default:
                return NONE;
        }
    }

    private Column columnAt(int column) {
        return column >= 0 && column < COLUMNS ? now.columns[column] : null;
    }

    private Column withBlocks(int column) {
        Column chosen = columnAt(column);
        return chosen == null || chosen.blocks == 0 ? null : chosen;
    }

    private Column withBlock(int column, int block) {
        Column chosen = columnAt(column);
        return chosen == null || !chosen.hasBlock(block) ? null : chosen;
    }

    private Column withPlace(int column, int place) {
        Column chosen = columnAt(column);
        return chosen == null || !chosen.row.has(place) ? null : chosen;
    }

    private Column sortedColumn(int column) {
        Column chosen = columnAt(column);
        return chosen == null || !chosen.row.isSorted() ? null : chosen;
    }

    private int comeBehindPending(long comes) {
        return now.pending.append(comes) ? now.pending.held : NONE;
    }

    private int change(int column, int place, long comes) {
        Column chosen = withPlace(column, place);
        if (chosen == null) {
            return NONE;
        }
        history.keep(now);
        chosen.row.change(place, comes);
        int block = chosen.holderOf(place);
        chosen.retell(measure, block);
        return chosen.fact(block, BITS);
    }

    /** Takes what is pending into the measure; false if there is none, or it can't be of a form. */
    private boolean measurePending(int form) {
        measure.load(now.pending, 0, now.pending.held);
        return measure.places > 0 && measure.suits(form);
    }

    private static int blocksFor(int places) {
        return (places + BLOCK_PLACES - 1) / BLOCK_PLACES;
    }

    private static int wordsFor(int bits) {
        return (bits + WORD_BITS - 1) / WORD_BITS;
    }

    private static int fold(int difference) {
        return (difference << 1) ^ (difference >> 31);
    }

    private static int unfold(int part) {
        return (part >>> 1) ^ -(part & 1);
    }

    private static long unsigned(int part) {
        return part & 4294967295L;
    }

    /** The bits of a double above 0, by exact steps: the library's own way is ruled out. */
    private static long bitsOfDouble(double number) {
        double left = number;
        long exponent = 1023;
        for (int i = 0; i < 64 && left >= 2.0; i++) {
            left = left / 2.0;
            exponent++;
        }
        for (int i = 0; i < 64 && left < 1.0; i++) {
            left = left * 2.0;
            exponent--;
        }
        return (exponent << 52) | (long) ((left - 1.0) * 4503599627370496.0);
    }

    /** Places one behind the other, each with its number or EMPTY_PLACE, as value() tells them. */
    private static final class Places {
        private final long[] told;
        int held;

        Places(int room) {
            told = new long[room > 0 ? room : 0];
        }

        boolean has(int place) {
            return place >= 0 && place < held;
        }

        boolean isFull(int place) {
            return has(place) && told[place] != EMPTY_PLACE;
        }

        boolean spans(int from, int to) {
            return from >= 0 && from <= to && to <= held;
        }

        long tellAt(int place) {
            return has(place) ? told[place] : NO_PLACE;
        }

        boolean append(long comes) {
            if (held >= told.length) {
                return false;
            }
            told[held] = comes;
            held++;
            return true;
        }

        void appendFrom(Places other, int from, int to) {
            for (int i = from; i < to; i++) {
                if (other.has(i)) {
                    append(other.told[i]);
                }
            }
        }

        /** Appends the numbers of two sorted rows, the lesser one first each time. */
        void appendBySize(Places one, Places other) {
            int i = one.nextFull(0);
            int j = other.nextFull(0);
            for (int n = 0; n < 2 * MOST_PLACES && (one.has(i) || other.has(j)); n++) {
                if (one.has(i) && (!other.has(j) || one.told[i] <= other.told[j])) {
                    append(one.told[i]);
                    i = one.nextFull(i + 1);
                } else {
                    append(other.told[j]);
                    j = other.nextFull(j + 1);
                }
            }
        }

        /** The first place from one on that has a number; behind the last one if there is none. */
        private int nextFull(int from) {
            int place = from;
            while (place < held && !isFull(place)) {
                place++;
            }
            return place;
        }

        void change(int place, long comes) {
            if (has(place)) {
                told[place] = comes;
            }
        }

        void enter(int place, int comes) {
            if (place < 0 || place > held || held >= told.length) {
                return;
            }
            System.arraycopy(told, place, told, place + 1, held - place);
            told[place] = comes;
            held++;
        }

        void takeOut(int from, int n) {
            int behind = from + n;
            if (from < 0 || n < 0 || behind > held) {
                return;
            }
            System.arraycopy(told, behind, told, from, held - behind);
            held -= n;
        }

        void raise(int by) {
            for (int i = 0; i < held; i++) {
                if (told[i] != EMPTY_PLACE) {
                    told[i] = (int) (told[i] + by);
                }
            }
        }

        void mirror(Places other) {
            int n = Math.min(other.held, told.length);
            System.arraycopy(other.told, 0, told, 0, n);
            held = n;
        }

        int vacantWithin(int from, int to) {
            int n = 0;
            for (int i = from; i < to; i++) {
                if (!isFull(i)) {
                    n++;
                }
            }
            return n;
        }

        long differenceAt(int place) {
            if (!isFull(place)) {
                return tellAt(place);
            }
            for (int ahead = place - 1; ahead >= 0; ahead--) {
                if (told[ahead] != EMPTY_PLACE) {
                    return (int) (told[place] - told[ahead]);
                }
            }
            return EMPTY_PLACE;
        }

        boolean isSorted() {
            long last = NO_PLACE;
            for (int i = 0; i < held; i++) {
                if (told[i] != EMPTY_PLACE) {
                    if (told[i] < last) {
                        return false;
                    }
                    last = told[i];
                }
            }
            return true;
        }

        int firstFrom(int low) {
            for (int i = 0; i < held; i++) {
                if (told[i] != EMPTY_PLACE && told[i] >= low) {
                    return i;
                }
            }
            return NONE;
        }

        long together(int from, int to) {
            long all = 0;
            for (int i = from; i < to; i++) {
                if (isFull(i)) {
                    all += told[i];
                }
            }
            return all;
        }

        /** EMPTY_PLACE is above every bound that an int can be, so it is within none. */
        int howManyWithin(int low, int high) {
            int n = 0;
            for (int i = 0; i < held; i++) {
                if (told[i] >= low && told[i] <= high) {
                    n++;
                }
            }
            return n;
        }

        long bySize(int k) {
            for (int i = 0; i < held && k >= 0; i++) {
                if (told[i] != EMPTY_PLACE && ranksAs(told[i], k)) {
                    return told[i];
                }
            }
            return NO_PLACE;
        }

        /** Whether a number is the k-th by size, like ones standing side by side. */
        private boolean ranksAs(long sought, int k) {
            int below = 0;
            int like = 0;
            for (int i = 0; i < held; i++) {
                if (told[i] < sought) {
                    below++;
                } else if (told[i] == sought) {
                    like++;
                }
            }
            return below <= k && k < below + like;
        }

        int howManyUnlike() {
            int n = 0;
            for (int i = 0; i < held; i++) {
                if (told[i] != EMPTY_PLACE && !standsAhead(i)) {
                    n++;
                }
            }
            return n;
        }

        private boolean standsAhead(int place) {
            for (int i = 0; i < place; i++) {
                if (told[i] == told[place]) {
                    return true;
                }
            }
            return false;
        }

        int longestRun() {
            int longest = 0;
            int length = 0;
            long last = NO_PLACE;
            for (int i = 0; i < held; i++) {
                if (told[i] != EMPTY_PLACE) {
                    length = told[i] == last ? length + 1 : 1;
                    last = told[i];
                    longest = Math.max(longest, length);
                }
            }
            return longest;
        }

        int firstUnlike(Places other) {
            // A place that just one has is told otherwise by the other, so lengths need no look.
            int longer = Math.max(held, other.held);
            for (int i = 0; i < longer; i++) {
                if (tellAt(i) != other.tellAt(i)) {
                    return i;
                }
            }
            return NONE;
        }
    }

    /** Measures one run of places: its parts by a form, and the form and width of fewest bits. */
    private static final class Measure {
        final int[] given = new int[BLOCK_PLACES];
        final int[] parts = new int[BLOCK_PLACES];
        // How many parts have so many bits.
        final int[] lengths = new int[WIDEST + 1];
        int places;
        int values;
        int partCount;
        int base;
        int step;
        int bestForm;
        int bestWidth;
        int bestOver;
        int bestBits;
        int bestBase;
        int bestStep;

        void begin() {
            places = 0;
            values = 0;
        }

        void load(Places row, int from, int n) {
            begin();
            for (int i = from; i < from + n; i++) {
                add(row.tellAt(i));
            }
        }

        void add(long comes) {
            if (comes == NO_PLACE || places >= BLOCK_PLACES) {
                return;
            }
            places++;
            if (comes != EMPTY_PLACE && values < BLOCK_PLACES) {
                given[values] = (int) comes;
                values++;
            }
        }

        boolean suits(int form) {
            return form == 0 || (form > 0 && form < FORMS && values >= 2);
        }

        void spread(int form) {
            spreadBy(form, stepOf(form));
        }

        /** Makes the parts by a form that suits; the step is as told, and 0 but by form 2. */
        void spreadBy(int form, int toldStep) {
            Arrays.fill(lengths, 0);
            step = toldStep;
            base = form == 0 ? leastGiven() : given[0];
            partCount = form == 0 ? values : Math.max(0, values - 1);
            for (int i = 0; i < partCount; i++) {
                int apart = form == 0 ? given[i] - base : given[i + 1] - given[i] - step;
                parts[i] = form == FORM_OF_FOLDED ? fold(apart) : apart;
                lengths[WORD_BITS - Integer.numberOfLeadingZeros(parts[i])]++;
            }
        }

        private int leastGiven() {
            int found = values > 0 ? given[0] : 0;
            for (int i = 1; i < values; i++) {
                found = Math.min(found, given[i]);
            }
            return found;
        }

        private int stepOf(int form) {
            if (form != FORM_OF_STEPS) {
                return 0;
            }
            int found = Integer.MAX_VALUE;
            for (int i = 1; i < values; i++) {
                found = Math.min(found, given[i] - given[i - 1]);
            }
            return found;
        }

        boolean hasPart(int i) {
            return i >= 0 && i < partCount;
        }

        boolean isOver(int i, int width) {
            return hasPart(i) && width < WIDEST && parts[i] >>> width != 0;
        }

        int overAt(int width) {
            int over = 0;
            for (int i = 0; i < partCount; i++) {
                if (isOver(i, width)) {
                    over++;
                }
            }
            return over;
        }

        int bitsBy(int form, int width) {
            return headBits(form) + bodyBits(width, overAt(width));
        }

        private int headBits(int form) {
            int mask = values < places ? places : 0;
            return HEAD_BITS + mask + (form == FORM_OF_STEPS ? WORD_BITS : 0);
        }

        private int bodyBits(int width, int over) {
            return width * partCount + over * (WHICH_BITS + WORD_BITS - width);
        }

        void choose() {
            bestBits = Integer.MAX_VALUE;
            for (int form = 0; form < FORMS; form++) {
                if (suits(form)) {
                    spreadBy(form, stepOf(form));
                    chooseWidth(form);
                }
            }
        }

        private void chooseWidth(int form) {
            int head = headBits(form);
            int over = partCount;
            for (int width = 0; width <= WIDEST; width++) {
                over -= lengths[width];
                // A width that no part has just so can't be better than the one below.
                if (width == 0 || lengths[width] > 0) {
                    int bits = head + bodyBits(width, over);
                    if (over <= MOST_EXCEPTIONS && bits < bestBits) {
                        keepBest(form, width, over, bits);
                    }
                }
                if (over == 0) {
                    return;
                }
            }
        }

        private void keepBest(int form, int width, int over, int bits) {
            bestForm = form;
            bestWidth = width;
            bestOver = over;
            bestBits = bits;
            bestBase = base;
            bestStep = step;
        }

        int bitsInBlocksOf(Places row, int n) {
            int bits = 0;
            for (int from = 0; from < row.held; from += Math.max(1, n)) {
                load(row, from, n);
                choose();
                bits += bestBits;
            }
            return bits;
        }
    }

    /** Blocks one behind the other: their places in one row, and what is told of each block. */
    private static final class Column {
        final Places row = new Places(MOST_PLACES);
        final int[] facts = new int[MOST_BLOCKS * FACTS];
        int blocks;

        void empty() {
            row.held = 0;
            blocks = 0;
        }

        void mirror(Column other) {
            row.mirror(other.row);
            System.arraycopy(other.facts, 0, facts, 0, other.blocks * FACTS);
            blocks = other.blocks;
        }

        boolean hasBlock(int block) {
            return block >= 0 && block < blocks;
        }

        boolean hasRoom(int places, int more) {
            return row.held + places <= MOST_PLACES && blocks + more <= MOST_BLOCKS;
        }

        /** A fact of a block, 0 where there is none such. */
        int fact(int block, int what) {
            return hasBlock(block) && what >= 0 && what < FACTS ? facts[block * FACTS + what] : 0;
        }

        private void keepFact(int block, int what, int told) {
            if (hasBlock(block) && what >= 0 && what < FACTS) {
                facts[block * FACTS + what] = told;
            }
        }

        int all(int what) {
            int together = 0;
            for (int block = 0; block < blocks; block++) {
                together += fact(block, what);
            }
            return together;
        }

        int wordsOf(int block) {
            return wordsFor(fact(block, BITS));
        }

        int allWords() {
            int together = 0;
            for (int block = 0; block < blocks; block++) {
                together += wordsOf(block);
            }
            return together;
        }

        int firstOf(int block) {
            int first = 0;
            for (int ahead = 0; ahead < block; ahead++) {
                first += fact(ahead, PLACES);
            }
            return first;
        }

        int holderOf(int place) {
            if (!row.has(place)) {
                return NONE;
            }
            int behind = 0;
            for (int block = 0; block < blocks; block++) {
                behind += fact(block, PLACES);
                if (place < behind) {
                    return block;
                }
            }
            return NONE;
        }

        int valuesAhead(int block, int place) {
            int first = firstOf(block);
            return place - first - row.vacantWithin(first, place);
        }

        /** What a block reaches at the most, its parts not being read and none patched. */
        long reachOf(int block) {
            return fact(block, BASE) + (1L << fact(block, WIDTH)) - 1;
        }

        void measureAsTold(Measure measure, int block) {
            measure.load(row, firstOf(block), fact(block, PLACES));
            measure.spreadBy(fact(block, FORM), fact(block, STEP));
        }

        void retell(Measure measure, int block) {
            measure.load(row, firstOf(block), fact(block, PLACES));
            measure.choose();
            keepFact(block, VALUES, measure.values);
            keepFact(block, FORM, measure.bestForm);
            keepFact(block, WIDTH, measure.bestWidth);
            keepFact(block, EXCEPTIONS, measure.bestOver);
            keepFact(block, BITS, measure.bestBits);
            keepFact(block, BASE, measure.bestBase);
            keepFact(block, STEP, measure.bestStep);
        }

        void retellAll(Measure measure) {
            for (int block = 0; block < blocks; block++) {
                retell(measure, block);
            }
        }

        /** Places of the row that no block has yet come into blocks: how many blocks. */
        int seal(Measure measure) {
            int before = blocks;
            for (int from = all(PLACES); from < row.held; from += BLOCK_PLACES) {
                addBlock(measure, Math.min(BLOCK_PLACES, row.held - from));
            }
            return blocks - before;
        }

        private void addBlock(Measure measure, int places) {
            if (blocks < MOST_BLOCKS) {
                blocks++;
                keepFact(blocks - 1, PLACES, places);
                retell(measure, blocks - 1);
            }
        }

        /** Takes a block as a tape tells it, its places being in the row already. */
        void addTold(int places, int values, int form, int width, int exceptions, int bits) {
            if (blocks < MOST_BLOCKS) {
                blocks++;
                keepFact(blocks - 1, PLACES, places);
                keepFact(blocks - 1, VALUES, values);
                keepFact(blocks - 1, FORM, form);
                keepFact(blocks - 1, WIDTH, width);
                keepFact(blocks - 1, EXCEPTIONS, exceptions);
                keepFact(blocks - 1, BITS, bits);
            }
        }

        void baseTheLast(int base, int step) {
            keepFact(blocks - 1, BASE, base);
            keepFact(blocks - 1, STEP, step);
        }

        private void openSlot(int block) {
            if (block < 0 || block > blocks || blocks >= MOST_BLOCKS) {
                return;
            }
            int from = block * FACTS;
            System.arraycopy(facts, from, facts, from + FACTS, (blocks - block) * FACTS);
            blocks++;
        }

        private void closeSlot(int block) {
            if (!hasBlock(block)) {
                return;
            }
            int from = block * FACTS;
            blocks--;
            System.arraycopy(facts, from + FACTS, facts, from, (blocks - block) * FACTS);
        }

        private int enteredBlock(int place) {
            return place == row.held ? blocks - 1 : holderOf(place);
        }

        boolean canEnter(int place) {
            if (blocks == 0 || place < 0 || place > row.held) {
                return false;
            }
            return hasRoom(1, fact(enteredBlock(place), PLACES) == BLOCK_PLACES ? 1 : 0);
        }

        void enter(Measure measure, int place, int number) {
            int block = enteredBlock(place);
            int places = fact(block, PLACES) + 1;
            row.enter(place, number);
            keepFact(block, PLACES, places);
            if (places > BLOCK_PLACES) {
                cutInTwo(measure, block, BLOCK_PLACES / 2);
            } else {
                retell(measure, block);
            }
        }

        void takeOut(Measure measure, int place) {
            int block = holderOf(place);
            int places = fact(block, PLACES) - 1;
            row.takeOut(place, 1);
            if (places == 0) {
                closeSlot(block);
            } else {
                keepFact(block, PLACES, places);
                retell(measure, block);
            }
        }

        void cutInTwo(Measure measure, int block, int n) {
            int places = fact(block, PLACES);
            openSlot(block + 1);
            keepFact(block, PLACES, n);
            keepFact(block + 1, PLACES, places - n);
            retell(measure, block);
            retell(measure, block + 1);
        }

        void dropBlock(int block) {
            row.takeOut(firstOf(block), fact(block, PLACES));
            closeSlot(block);
        }

        int joinBlocks(Measure measure) {
            int before = blocks;
            int block = 0;
            for (int n = 1; n < before; n++) {
                if (shouldJoin(measure, block)) {
                    int places = fact(block, PLACES) + fact(block + 1, PLACES);
                    closeSlot(block + 1);
                    keepFact(block, PLACES, places);
                    retell(measure, block);
                } else {
                    block++;
                }
            }
            return before - blocks;
        }

        private boolean shouldJoin(Measure measure, int block) {
            int places = fact(block, PLACES) + fact(block + 1, PLACES);
            if (!hasBlock(block + 1) || places > BLOCK_PLACES) {
                return false;
            }
            measure.load(row, firstOf(block), places);
            measure.choose();
            return measure.bestBits < fact(block, BITS) + fact(block + 1, BITS);
        }

        void cutBy(Measure measure, Cutter cutter) {
            blocks = 0;
            for (int i = 0; i < cutter.blocks && i < MOST_BLOCKS; i++) {
                addBlock(measure, cutter.sizes[i]);
            }
        }

        int bitsByBest(Measure measure) {
            int bits = 0;
            for (int block = 0; block < blocks; block++) {
                measure.load(row, firstOf(block), fact(block, PLACES));
                measure.choose();
                bits += measure.bestBits;
            }
            return bits;
        }

        int bitsWith(Measure measure, int place, int number) {
            int block = holderOf(place);
            long before = row.tellAt(place);
            row.change(place, number);
            measure.load(row, firstOf(block), fact(block, PLACES));
            row.change(place, before);
            measure.choose();
            return all(BITS) - fact(block, BITS) + measure.bestBits;
        }

        int blocksOf(int form, int width) {
            int n = 0;
            for (int block = 0; block < blocks; block++) {
                if ((form == NONE || fact(block, FORM) == form)
                        && (width == NONE || fact(block, WIDTH) == width)) {
                    n++;
                }
            }
            return n;
        }

        int heaviestBlock() {
            int found = 0;
            for (int block = 1; block < blocks; block++) {
                // Both sides times both places, as a division would round.
                if (fact(block, BITS) * fact(found, PLACES)
                        > fact(found, BITS) * fact(block, PLACES)) {
                    found = block;
                }
            }
            return found;
        }

        int blocksOutside(int low, int high) {
            int n = 0;
            for (int block = 0; block < blocks; block++) {
                if (fact(block, VALUES) == 0 || isOutside(block, low, high)) {
                    n++;
                }
            }
            return n;
        }

        private boolean isOutside(int block, int low, int high) {
            return fact(block, FORM) == 0 && fact(block, EXCEPTIONS) == 0
                    && (fact(block, BASE) > high || reachOf(block) < low);
        }

        int looksFor(int sought) {
            int low = 0;
            int high = blocksWithValues();
            int looked = 0;
            while (low < high && looked < blocks) {
                int middle = (low + high) / 2;
                if (fact(withValues(middle), BASE) < sought) {
                    low = middle + 1;
                } else {
                    high = middle;
                }
                looked++;
            }
            return looked;
        }

        private int blocksWithValues() {
            int n = 0;
            for (int block = 0; block < blocks; block++) {
                if (fact(block, VALUES) > 0) {
                    n++;
                }
            }
            return n;
        }

        /** The i-th of the blocks that have values. */
        private int withValues(int i) {
            int ahead = 0;
            for (int block = 0; block < blocks; block++) {
                if (fact(block, VALUES) > 0) {
                    if (ahead == i) {
                        return block;
                    }
                    ahead++;
                }
            }
            return NONE;
        }
    }

    /** Finds the blocks by which a row of places has the fewest bits of all. */
    private static final class Cutter {
        private static final int ENDS = MOST_PLACES + 1;
        // Far above what any column has, and far below where a sum would go round.
        private static final int CANNOT = 1000000000;

        final int[] sizes = new int[MOST_BLOCKS];
        int blocks;
        int fewest;
        private final Places planned = new Places(MOST_PLACES);
        // Bits of the block from a place on with so many places (and one).
        private final int[] cost = new int[MOST_PLACES * BLOCK_PLACES];
        // Fewest bits of all from a place on, in just so many blocks.
        private final int[] rest = new int[(MOST_BLOCKS + 1) * ENDS];

        void plan(Places row, Measure measure) {
            // It is dear, and asked again and again of places that stay as they are.
            if (planned.firstUnlike(row) == NONE) {
                return;
            }
            planned.mirror(row);
            measureAll(row, measure);
            Arrays.fill(rest, CANNOT);
            rest[row.held] = 0;
            for (int n = 1; n <= MOST_BLOCKS; n++) {
                int first = Math.max(0, row.held - n * BLOCK_PLACES);
                for (int from = first; from <= row.held - n; from++) {
                    rest[n * ENDS + from] = fewestFrom(n, from, row.held);
                }
            }
            chooseBlocks();
            follow(row.held);
        }

        private void measureAll(Places row, Measure measure) {
            for (int from = 0; from < row.held; from++) {
                measure.begin();
                int most = Math.min(BLOCK_PLACES, row.held - from);
                for (int places = 1; places <= most; places++) {
                    measure.add(row.tellAt(from + places - 1));
                    measure.choose();
                    cost[from * BLOCK_PLACES + places - 1] = measure.bestBits;
                }
            }
        }

        private int fewestFrom(int n, int from, int held) {
            int found = CANNOT;
            int most = Math.min(BLOCK_PLACES, held - from);
            for (int places = 1; places <= most; places++) {
                found = Math.min(found, bitsOf(n, from, places));
            }
            return found;
        }

        private int bitsOf(int n, int from, int places) {
            int behind = rest[(n - 1) * ENDS + from + places];
            return behind == CANNOT ? CANNOT : behind + cost[from * BLOCK_PLACES + places - 1];
        }

        private void chooseBlocks() {
            blocks = 0;
            fewest = CANNOT;
            for (int n = 1; n <= MOST_BLOCKS; n++) {
                if (rest[n * ENDS] < fewest) {
                    fewest = rest[n * ENDS];
                    blocks = n;
                }
            }
        }

        /** Takes each block as short as the fewest bits leave it. */
        private void follow(int held) {
            int from = 0;
            for (int i = 0; i < blocks; i++) {
                int left = blocks - i;
                int most = Math.min(BLOCK_PLACES, held - from);
                int places = 1;
                while (places < most && bitsOf(left, from, places) != rest[left * ENDS + from]) {
                    places++;
                }
                sizes[i] = places;
                from += places;
            }
        }
    }

    /** Words one behind the other. */
    private static final class Tape {
        final int[] words = new int[MOST_WORDS];
        int held;

        boolean has(int i) {
            return i >= 0 && i < held;
        }

        boolean append(int comes) {
            if (held >= MOST_WORDS) {
                return false;
            }
            words[held] = comes;
            held++;
            return true;
        }

        int bitAt(int at) {
            int i = at / WORD_BITS;
            return has(i) ? (words[i] >>> (at % WORD_BITS)) & 1 : 0;
        }
    }

    /** Writes a block as words. */
    private static final class Scribe {
        // The longest block has 621 bits.
        private static final int MOST = 20;

        private final int[] words = new int[MOST];
        private int at;

        void write(Column column, int block, Measure measure) {
            Arrays.fill(words, 0);
            at = 0;
            column.measureAsTold(measure, block);
            writeHead(column, block);
            writeParts(measure, column.fact(block, WIDTH));
        }

        int wordAt(int i) {
            return i >= 0 && i < wordsFor(at) && i < MOST ? words[i] : 0;
        }

        void sendTo(Tape tape) {
            int n = wordsFor(at);
            for (int i = 0; i < n; i++) {
                tape.append(wordAt(i));
            }
        }

        private void writeHead(Column column, int block) {
            int places = column.fact(block, PLACES);
            int form = column.fact(block, FORM);
            boolean masked = column.fact(block, VALUES) < places;
            writeNumber(places - 1, PLACES_BITS);
            writeNumber(masked ? 1 : 0, MASKED_BITS);
            if (masked) {
                writeMask(column.row, column.firstOf(block), places);
            }
            writeNumber(form, FORM_BITS);
            writeNumber(column.fact(block, WIDTH), WIDTH_BITS);
            writeNumber(column.fact(block, EXCEPTIONS), EXCEPTIONS_BITS);
            writeNumber(column.fact(block, BASE), WORD_BITS);
            if (form == FORM_OF_STEPS) {
                writeNumber(column.fact(block, STEP), WORD_BITS);
            }
        }

        private void writeMask(Places row, int first, int places) {
            for (int i = first; i < first + places; i++) {
                writeNumber(row.isFull(i) ? 0 : 1, 1);
            }
        }

        private void writeParts(Measure measure, int width) {
            for (int i = 0; i < measure.partCount; i++) {
                writeNumber(measure.parts[i], width);
            }
            for (int i = 0; i < measure.partCount; i++) {
                if (measure.isOver(i, width)) {
                    writeNumber(i, WHICH_BITS);
                    writeNumber(measure.parts[i] >>> width, WORD_BITS - width);
                }
            }
        }

        private void writeNumber(int number, int bits) {
            for (int i = 0; i < bits && at < MOST * WORD_BITS; i++) {
                words[at / WORD_BITS] |= ((number >>> i) & 1) << (at % WORD_BITS);
                at++;
            }
        }
    }

    /** Reads a tape as blocks, till its end or the first fault. */
    private static final class Opener {
        private final Tape tape;
        private final int[] parts = new int[BLOCK_PLACES];
        int kind;
        int where;
        private int at;
        private int start;
        private int places;
        private int mask;
        private int values;
        private int form;
        private int width;
        private int exceptions;
        private int base;
        private int baseAt;
        private int step;
        private int partCount;

        Opener(Tape tape) {
            this.tape = tape;
        }

        /** Reads all into a column that is emptied first; false if there is a fault. */
        boolean openAll(Column into) {
            into.empty();
            kind = 0;
            where = NONE;
            at = 0;
            for (int n = 0; n <= MOST_BLOCKS && at < endOfTape() && kind == 0; n++) {
                openBlock(into);
            }
            return kind == 0;
        }

        private void openBlock(Column into) {
            start = at;
            openPlaces(into);
            openHead();
            if (kind == 0) {
                openParts();
            }
            if (kind == 0) {
                openExceptions();
            }
            if (kind == 0) {
                takeValues(into);
            }
        }

        private int endOfTape() {
            return tape.held * WORD_BITS;
        }

        /** The first fault stays: once there is one, nothing more is read or refused. */
        private void refuse(int fault, int bit) {
            if (kind == 0) {
                kind = fault;
                where = bit;
            }
        }

        private int number(int bits) {
            if (at + bits > endOfTape()) {
                refuse(ENDS_WITHIN, at);
            }
            int told = 0;
            for (int i = 0; i < bits && kind == 0; i++) {
                told |= tape.bitAt(at) << i;
                at++;
            }
            return told;
        }

        private void openPlaces(Column into) {
            places = number(PLACES_BITS) + 1;
            if (!into.hasRoom(places, 1)) {
                refuse(TOO_MANY, start);
            }
            boolean masked = number(MASKED_BITS) == 1;
            int maskAt = at;
            mask = masked ? number(places) : 0;
            if (masked && mask == 0) {
                refuse(NOT_AS_TOLD, maskAt);
            }
            values = places - Integer.bitCount(mask);
        }

        private void openHead() {
            int formAt = at;
            form = number(FORM_BITS);
            if (form >= FORMS || (form > 0 && values < 2)) {
                refuse(WRONG_FORM, formAt);
            }
            int widthAt = at;
            width = number(WIDTH_BITS);
            if (width > WIDEST) {
                refuse(WRONG_WIDTH, widthAt);
            }
            partCount = form == 0 ? values : values - 1;
            int exceptionsAt = at;
            exceptions = number(EXCEPTIONS_BITS);
            if (exceptions > partCount || (exceptions > 0 && width == WIDEST)) {
                refuse(WRONG_EXCEPTIONS, exceptionsAt);
            }
            baseAt = at;
            base = number(WORD_BITS);
            step = form == FORM_OF_STEPS ? number(WORD_BITS) : 0;
        }

        private void openParts() {
            for (int i = 0; i < partCount && i < BLOCK_PLACES; i++) {
                parts[i] = number(width);
            }
        }

        private void openExceptions() {
            int last = NONE;
            for (int i = 0; i < exceptions && kind == 0; i++) {
                int whichAt = at;
                int which = number(WHICH_BITS);
                if (which <= last || which >= partCount) {
                    refuse(WRONG_WHICH, whichAt);
                }
                int restAt = at;
                int more = number(WORD_BITS - width);
                if (more == 0) {
                    refuse(NOT_AS_TOLD, restAt);
                }
                if (kind == 0 && which >= 0 && which < BLOCK_PLACES) {
                    parts[which] |= more << width;
                }
                last = which;
            }
        }

        private void takeValues(Column into) {
            int taken = 0;
            int last = base;
            int least = Integer.MAX_VALUE;
            for (int i = 0; i < places; i++) {
                boolean vacant = ((mask >>> i) & 1) == 1;
                if (!vacant) {
                    last = valueBehind(last, taken);
                    least = Math.min(least, last);
                    taken++;
                }
                into.row.append(vacant ? EMPTY_PLACE : last);
            }
            if (form == 0 && base != (values > 0 ? least : 0)) {
                refuse(NOT_AS_TOLD, baseAt);
            }
            int fillAt = at;
            if (number(wordsFor(at) * WORD_BITS - at) != 0) {
                refuse(WRONG_FILLING, fillAt);
            }
            into.addTold(places, values, form, width, exceptions, fillAt - start);
            into.baseTheLast(base, step);
        }

        /** The value with so many ahead of it in its block, the last of which is told. */
        private int valueBehind(int last, int ahead) {
            if (form == 0) {
                return ahead < BLOCK_PLACES ? base + parts[ahead] : base;
            }
            if (ahead == 0 || ahead > BLOCK_PLACES) {
                return base;
            }
            int part = parts[ahead - 1];
            return last + (form == FORM_OF_STEPS ? part + step : unfold(part));
        }
    }

    /** Columns, what is pending, and X: all that a step changes. */
    private static final class State {
        final Column[] columns = new Column[COLUMNS];
        final Places pending = new Places(BLOCK_PLACES);
        int x = FIRST_X;

        State() {
            for (int i = 0; i < COLUMNS; i++) {
                columns[i] = new Column();
            }
        }

        void mirror(State other) {
            for (int i = 0; i < COLUMNS; i++) {
                Column mine = columns[i];
                Column its = other.columns[i];
                if (mine != null && its != null) {
                    mine.mirror(its);
                }
            }
            pending.mirror(other.pending);
            x = other.x;
        }

        void exchange(int one, int other) {
            if (one >= 0 && one < COLUMNS && other >= 0 && other < COLUMNS) {
                Column held = columns[one];
                columns[one] = columns[other];
                columns[other] = held;
            }
        }

        void walkInto(Places row, int from, int spread, int n) {
            int number = from;
            int choices = 2 * spread + 1;
            for (int i = 0; i < n; i++) {
                x = (x * 857 + 593) % X_ENDS;
                number += (choices > 0 ? x % choices : 0) - spread;
                row.append(number);
            }
        }

        int allPlaces() {
            int together = 0;
            for (int i = 0; i < COLUMNS; i++) {
                Column column = columns[i];
                together += column == null ? 0 : column.row.held;
            }
            return together;
        }
    }

    /** The states ahead of the latest steps, in a ring of rows that are used again. */
    private static final class History {
        private final State[] kept = new State[MOST_STEPS];
        private int first;
        int held;

        void keep(State state) {
            if (held == MOST_STEPS) {
                first = (first + 1) % MOST_STEPS;
                held--;
            }
            held++;
            rowAt(held - 1).mirror(state);
        }

        boolean takeBack(State into) {
            if (held == 0) {
                return false;
            }
            into.mirror(rowAt(held - 1));
            held--;
            return true;
        }

        void mirror(History other) {
            first = 0;
            held = other.held;
            for (int i = 0; i < held; i++) {
                rowAt(i).mirror(other.rowAt(i));
            }
        }

        /** Rows are made when they are first needed, as most objects take few steps. */
        private State rowAt(int i) {
            int slot = Math.floorMod(first + i, MOST_STEPS);
            State row = kept[slot];
            if (row == null) {
                row = new State();
                kept[slot] = row;
            }
            return row;
        }
    }
}
