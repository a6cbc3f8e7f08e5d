import java.math.BigInteger;
import java.util.ArrayList;
import java.util.Arrays;
import java.util.Collections;
import java.util.HashMap;
import java.util.HashSet;
import java.util.List;
import java.util.Map;
import java.util.Objects;

/**
 * The document once more, written another way than the class is: blocks are lists, their bits are
 * texts of 0 and 1, every form and width is tried, and what is kept is copied whole.
 */
final class Model {
    static final long EMPTY = 4294967296L;
    static final long ABSENT = -4294967296L;
    private static final long ROUND = 1L << 32;

    /** One block: its places (null: empty), and how it is told. */
    static final class Block {
        final List<Integer> places;
        final int form;
        final int width;
        final int step;

        Block(List<Integer> places, int form, int width, int step) {
            this.places = new ArrayList<>(places);
            this.form = form;
            this.width = width;
            this.step = step;
        }

        List<Integer> values() {
            List<Integer> found = new ArrayList<>(places);
            found.removeIf(Objects::isNull);
            return found;
        }

        boolean gaps() {
            return places.contains(null);
        }

        int base() {
            List<Integer> values = values();
            if (values.isEmpty()) {
                return 0;
            }
            return form == 0 ? Collections.min(values) : values.get(0);
        }

        List<Long> parts() {
            List<Integer> values = values();
            List<Long> parts = new ArrayList<>();
            for (int i = form == 0 ? 0 : 1; i < values.size(); i++) {
                if (form == 0) {
                    parts.add((long) values.get(i) - base());
                } else {
                    int d = values.get(i) - values.get(i - 1);
                    parts.add(form == 1 ? foldOf(d) : Math.floorMod((long) d - step, ROUND));
                }
            }
            return parts;
        }

        int exceptions() {
            int n = 0;
            for (long p : parts()) {
                n += lengthOf(p) > width ? 1 : 0;
            }
            return n;
        }

        String told() {
            StringBuilder out = new StringBuilder();
            number(out, places.size() - 1, 4);
            number(out, gaps() ? 1 : 0, 1);
            if (gaps()) {
                for (Integer p : places) {
                    number(out, p == null ? 1 : 0, 1);
                }
            }
            number(out, form, 2);
            number(out, width, 6);
            number(out, exceptions(), 4);
            number(out, base() & 0xFFFFFFFFL, 32);
            if (form == 2) {
                number(out, step & 0xFFFFFFFFL, 32);
            }
            List<Long> parts = parts();
            for (long p : parts) {
                number(out, p % (1L << width), width);
            }
            for (int i = 0; i < parts.size(); i++) {
                if (lengthOf(parts.get(i)) > width) {
                    number(out, i, 4);
                    number(out, parts.get(i) / (1L << width), 32 - width);
                }
            }
            return out.toString();
        }

        int bits() {
            return told().length();
        }

        List<Integer> words() {
            StringBuilder out = new StringBuilder(told());
            while (out.length() % 32 != 0) {
                out.append('0');
            }
            List<Integer> words = new ArrayList<>();
            for (int i = 0; i < out.length(); i += 32) {
                String one = new StringBuilder(out.substring(i, i + 32)).reverse().toString();
                words.add(new BigInteger(one, 2).intValue());
            }
            return words;
        }
    }

    static void number(StringBuilder out, long number, int bits) {
        for (int i = 0; i < bits; i++) {
            out.append((number >> i & 1) == 1 ? '1' : '0');
        }
    }

    static long foldOf(int d) {
        return d >= 0 ? 2L * d : 2L * -(long) d - 1;
    }

    static int lengthOf(long part) {
        return part == 0 ? 0 : Long.toBinaryString(part).length();
    }

    static boolean can(List<Integer> places, int form) {
        int values = 0;
        for (Integer p : places) {
            values += p == null ? 0 : 1;
        }
        return form == 0 || (form >= 1 && form <= 2 && values >= 2);
    }

    static Block tell(List<Integer> places, int form, int width) {
        int step = 0;
        if (form == 2) {
            List<Integer> values = new Block(places, 0, 0, 0).values();
            step = Integer.MAX_VALUE;
            for (int i = 1; i < values.size(); i++) {
                step = Math.min(step, values.get(i) - values.get(i - 1));
            }
        }
        return new Block(places, form, width, step);
    }

    /** Bits by form and width, by the document's list of numbers; -1: it can't be. */
    static int bitsOf(List<Integer> places, int form, int width) {
        if (!can(places, form)) {
            return -1;
        }
        return bitsOf(tell(places, form, width), width);
    }

    private static int bitsOf(Block block, int width) {
        List<Long> parts = block.parts();
        int over = 0;
        for (long p : parts) {
            over += lengthOf(p) > width ? 1 : 0;
        }
        if (over > 15) {
            return -1;
        }
        return 4 + 1 + (block.gaps() ? block.places.size() : 0) + 2 + 6 + 4 + 32
                + (block.form == 2 ? 32 : 0) + width * parts.size() + over * (4 + 32 - width);
    }

    private static final Map<List<Integer>, Block> BEST = new HashMap<>();

    static Block best(List<Integer> places) {
        if (BEST.size() > 200000) {
            BEST.clear();
        }
        Block known = BEST.get(places);
        if (known != null) {
            return known;
        }
        Block found = null;
        int fewest = 0;
        for (int form = 0; form < 3; form++) {
            if (!can(places, form)) {
                continue;
            }
            Block tried = tell(places, form, 0);
            for (int width = 0; width <= 32; width++) {
                int bits = bitsOf(tried, width);
                if (bits >= 0 && (found == null || bits < fewest)) {
                    found = new Block(places, form, width, tried.step);
                    fewest = bits;
                }
            }
        }
        if (found.bits() != fewest) {
            throw new IllegalStateException("the model's bits are not the bits it writes");
        }
        BEST.put(new ArrayList<>(places), found);
        return found;
    }

    // ---- the state

    List<List<Block>> columns = List.of(List.of(), List.of(), List.of());
    List<Integer> pending = new ArrayList<>();
    int x = 647;
    private List<Object[]> steps = new ArrayList<>();
    List<Integer> tape = new ArrayList<>();
    private int fault = -1;
    private int faultBit = -1;
    private boolean opened;
    private Object[] image = {columns, List.of(), x, steps};

    private Object[] kept() {
        return new Object[] {columns, new ArrayList<>(pending), x};
    }

    @SuppressWarnings("unchecked")
    private void restore(Object[] kept) {
        columns = (List<List<Block>>) kept[0];
        pending = new ArrayList<>((List<Integer>) kept[1]);
        x = (Integer) kept[2];
    }

    private void step() {
        steps = new ArrayList<>(steps);
        steps.add(kept());
        if (steps.size() > 20) {
            steps.remove(0);
        }
    }

    private void become(int c, List<Block> blocks) {
        List<List<Block>> all = new ArrayList<>(columns);
        all.set(c, blocks);
        columns = all;
    }

    private boolean no(int c) {
        return c < 0 || c > 2;
    }

    List<Integer> all(int c) {
        return all(columns.get(c));
    }

    private static List<Integer> all(List<Block> blocks) {
        List<Integer> found = new ArrayList<>();
        for (Block b : blocks) {
            found.addAll(b.places);
        }
        return found;
    }

    private List<Integer> full(int c) {
        List<Integer> found = all(c);
        found.removeIf(Objects::isNull);
        return found;
    }

    private static int bitsOf(List<Block> blocks) {
        int n = 0;
        for (Block b : blocks) {
            n += b.bits();
        }
        return n;
    }

    private static List<Block> inBlocks(List<Integer> places, int n) {
        List<Block> found = new ArrayList<>();
        for (int i = 0; i < places.size(); i += n) {
            found.add(best(places.subList(i, Math.min(i + n, places.size()))));
        }
        return found;
    }

    /** Appends blocks, or answers false without room. */
    private boolean come(int c, List<Block> more) {
        List<Block> blocks = new ArrayList<>(columns.get(c));
        blocks.addAll(more);
        if (blocks.size() > 24 || all(blocks).size() > 128) {
            return false;
        }
        step();
        become(c, blocks);
        return true;
    }

    /** The block of a place and its place within: null without. */
    private int[] where(int c, int place) {
        if (no(c) || place < 0) {
            return null;
        }
        int left = place;
        for (int b = 0; b < columns.get(c).size(); b++) {
            int n = columns.get(c).get(b).places.size();
            if (left < n) {
                return new int[] {b, left};
            }
            left -= n;
        }
        return null;
    }

    private Block at(int c, int b) {
        return no(c) || b < 0 || b >= columns.get(c).size() ? null : columns.get(c).get(b);
    }

    // ---- the calls

    int put(int v) {
        if (pending.size() == 16) {
            return -1;
        }
        pending.add(v);
        return pending.size();
    }

    int gap() {
        if (pending.size() == 16) {
            return -1;
        }
        pending.add(null);
        return pending.size();
    }

    int forget() {
        int n = pending.size();
        pending.clear();
        return n;
    }

    int flush(int c) {
        if (no(c) || pending.isEmpty()) {
            return -1;
        }
        Block b = best(pending);
        if (!come(c, List.of(b))) {
            return -1;
        }
        pending.clear();
        return b.bits();
    }

    int set(int c, int place, int v) {
        return become(c, place, v);
    }

    int clear(int c, int place) {
        return become(c, place, null);
    }

    private int become(int c, int place, Integer v) {
        int[] w = where(c, place);
        if (w == null) {
            return -1;
        }
        step();
        List<Block> blocks = new ArrayList<>(columns.get(c));
        List<Integer> places = new ArrayList<>(blocks.get(w[0]).places);
        places.set(w[1], v);
        blocks.set(w[0], best(places));
        become(c, blocks);
        return blocks.get(w[0]).bits();
    }

    int insert(int c, int place, int v) {
        if (no(c) || columns.get(c).isEmpty()) {
            return -1;
        }
        List<Block> blocks = new ArrayList<>(columns.get(c));
        int last = blocks.size() - 1;
        int[] w = place == all(c).size() ? new int[] {last, blocks.get(last).places.size()}
                : where(c, place);
        if (w == null) {
            return -1;
        }
        List<Integer> places = new ArrayList<>(blocks.get(w[0]).places);
        places.add(w[1], v);
        if (places.size() == 17) {
            blocks.set(w[0], best(places.subList(0, 8)));
            blocks.add(w[0] + 1, best(places.subList(8, 17)));
        } else {
            blocks.set(w[0], best(places));
        }
        if (blocks.size() > 24 || all(blocks).size() > 128) {
            return -1;
        }
        step();
        become(c, blocks);
        return bitsOf(blocks);
    }

    int remove(int c, int place) {
        int[] w = where(c, place);
        if (w == null) {
            return -1;
        }
        step();
        List<Block> blocks = new ArrayList<>(columns.get(c));
        List<Integer> places = new ArrayList<>(blocks.get(w[0]).places);
        places.remove(w[1]);
        if (places.isEmpty()) {
            blocks.remove(w[0]);
        } else {
            blocks.set(w[0], best(places));
        }
        become(c, blocks);
        return bitsOf(blocks);
    }

    int split(int c, int b, int n) {
        Block block = at(c, b);
        if (block == null || n < 1 || n > block.places.size() - 1 || columns.get(c).size() == 24) {
            return -1;
        }
        step();
        List<Block> blocks = new ArrayList<>(columns.get(c));
        Block one = best(block.places.subList(0, n));
        Block two = best(block.places.subList(n, block.places.size()));
        blocks.set(b, one);
        blocks.add(b + 1, two);
        become(c, blocks);
        return one.bits() + two.bits();
    }

    int shift(int c, int by) {
        if (no(c)) {
            return -1;
        }
        step();
        List<Block> blocks = new ArrayList<>();
        for (Block b : columns.get(c)) {
            List<Integer> places = new ArrayList<>();
            for (Integer p : b.places) {
                places.add(p == null ? null : Integer.valueOf(p + by));
            }
            blocks.add(best(places));
        }
        become(c, blocks);
        return bitsOf(blocks);
    }

    int merge(int one, int other, int into) {
        if (no(one) || no(other) || no(into) || !sorted(one) || !sorted(other)) {
            return -1;
        }
        List<Integer> values = full(one);
        values.addAll(full(other));
        if (values.size() > 128) {
            return -1;
        }
        Collections.sort(values);
        step();
        become(into, inBlocks(values, 16));
        return values.size();
    }

    int copy(int c, int from, int to, int into) {
        if (no(c) || no(into) || from < 0 || from >= to || to > all(c).size()) {
            return -1;
        }
        List<Block> more = inBlocks(all(c).subList(from, to), 16);
        return come(into, more) ? more.size() : -1;
    }

    boolean swap(int one, int other) {
        if (no(one) || no(other) || one == other) {
            return false;
        }
        step();
        List<Block> held = columns.get(one);
        become(one, columns.get(other));
        become(other, held);
        return true;
    }

    int drop(int c, int b) {
        Block block = at(c, b);
        if (block == null) {
            return -1;
        }
        step();
        List<Block> blocks = new ArrayList<>(columns.get(c));
        blocks.remove(b);
        become(c, blocks);
        return block.places.size();
    }

    int join(int c) {
        if (no(c)) {
            return -1;
        }
        step();
        List<Block> blocks = new ArrayList<>(columns.get(c));
        int before = blocks.size();
        int i = 0;
        while (i + 1 < blocks.size()) {
            List<Integer> both = new ArrayList<>(blocks.get(i).places);
            both.addAll(blocks.get(i + 1).places);
            if (both.size() <= 16
                    && best(both).bits() < blocks.get(i).bits() + blocks.get(i + 1).bits()) {
                blocks.set(i, best(both));
                blocks.remove(i + 1);
            } else {
                i++;
            }
        }
        become(c, blocks);
        return before - blocks.size();
    }

    /** Sizes of the blocks, behind their bits. */
    private static List<Integer> cutAnew(List<Integer> places) {
        int[][] cost = new int[places.size()][17];
        for (int i = 0; i < places.size(); i++) {
            for (int n = 1; n <= 16 && i + n <= places.size(); n++) {
                cost[i][n] = best(places.subList(i, i + n)).bits();
            }
        }
        return cutFrom(places.size(), 0, 24, cost, new HashMap<>());
    }

    private static List<Integer> cutFrom(int end, int from, int most, int[][] cost,
            Map<Integer, List<Integer>> known) {
        if (from == end) {
            return List.of(0);
        }
        if (most == 0) {
            return null;
        }
        int key = from * 100 + most;
        if (known.containsKey(key)) {
            return known.get(key);
        }
        List<Integer> found = null;
        for (int n = 1; n <= 16 && from + n <= end; n++) {
            List<Integer> behind = cutFrom(end, from + n, most - 1, cost, known);
            if (behind != null) {
                List<Integer> one = new ArrayList<>(behind);
                one.set(0, behind.get(0) + cost[from][n]);
                one.add(1, n);
                if (found == null || ahead(one, found)) {
                    found = one;
                }
            }
        }
        known.put(key, found);
        return found;
    }

    private static boolean ahead(List<Integer> one, List<Integer> other) {
        if (!one.get(0).equals(other.get(0))) {
            return one.get(0) < other.get(0);
        }
        if (one.size() != other.size()) {
            return one.size() < other.size();
        }
        for (int i = 1; i < one.size(); i++) {
            if (!one.get(i).equals(other.get(i))) {
                return one.get(i) < other.get(i);
            }
        }
        return false;
    }

    int recut(int c) {
        if (no(c) || columns.get(c).isEmpty()) {
            return -1;
        }
        step();
        List<Integer> places = all(c);
        List<Integer> plan = cutAnew(places);
        List<Block> blocks = new ArrayList<>();
        int from = 0;
        for (int n : plan.subList(1, plan.size())) {
            blocks.add(best(places.subList(from, from + n)));
            from += n;
        }
        become(c, blocks);
        return bitsOf(blocks);
    }

    int walk(int c, int from, int spread, int n) {
        if (no(c) || spread < 0 || spread > 99999 || n < 1 || n > 48) {
            return -1;
        }
        List<Integer> places = new ArrayList<>();
        int v = from;
        int nextX = x;
        for (int i = 0; i < n; i++) {
            nextX = (int) ((nextX * 857L + 593) % 29989);
            v = (int) ((long) v + nextX % (2 * spread + 1) - spread);
            places.add(v);
        }
        List<Block> more = inBlocks(places, 16);
        if (!come(c, more)) {
            return -1;
        }
        x = nextX;
        return more.size();
    }

    boolean tell(int told) {
        if (told < 0 || told > 29988) {
            return false;
        }
        x = told;
        return true;
    }

    int word(int bits) {
        if (tape.size() == 400) {
            return -1;
        }
        tape.add(bits);
        return tape.size();
    }

    boolean end(int n) {
        if (n < 0 || n > tape.size()) {
            return false;
        }
        tape = new ArrayList<>(tape.subList(0, n));
        return true;
    }

    int tape(int i) {
        return i < 0 || i >= tape.size() ? 0 : tape.get(i);
    }

    int save(int c) {
        if (no(c)) {
            return -1;
        }
        tape = new ArrayList<>();
        for (Block b : columns.get(c)) {
            tape.addAll(b.words());
        }
        return tape.size();
    }

    /** What a tape is refused with. */
    private static final class Fault extends Exception {
        private static final long serialVersionUID = 1;
        final int kind;
        final int bit;

        Fault(int kind, int bit) {
            this.kind = kind;
            this.bit = bit;
        }
    }

    private String band;
    private int at;

    private long take(int bits) throws Fault {
        if (at + bits > band.length()) {
            throw new Fault(1, at);
        }
        long told = 0;
        for (int i = bits - 1; i >= 0; i--) {
            told = told * 2 + (band.charAt(at + i) - '0');
        }
        at += bits;
        return told;
    }

    private Block takeBlock(int blocksAhead, int placesAhead) throws Fault {
        int first = at;
        int n = (int) take(4) + 1;
        if (blocksAhead == 24 || placesAhead + n > 128) {
            throw new Fault(8, first);
        }
        boolean[] empty = new boolean[n];
        int values = n;
        if (take(1) == 1) {
            int mask = at;
            for (int i = 0; i < n; i++) {
                empty[i] = take(1) == 1;
                values -= empty[i] ? 1 : 0;
            }
            if (values == n) {
                throw new Fault(6, mask);
            }
        }
        int bit = at;
        int form = (int) take(2);
        if (form == 3 || (form != 0 && values < 2)) {
            throw new Fault(2, bit);
        }
        bit = at;
        int width = (int) take(6);
        if (width > 32) {
            throw new Fault(3, bit);
        }
        int partCount = form == 0 ? values : values - 1;
        bit = at;
        int exceptions = (int) take(4);
        if (exceptions > partCount || (exceptions != 0 && width == 32)) {
            throw new Fault(4, bit);
        }
        int baseBit = at;
        int base = (int) take(32);
        int step = form == 2 ? (int) take(32) : 0;
        long[] parts = new long[partCount];
        for (int i = 0; i < partCount; i++) {
            parts[i] = take(width);
        }
        int last = -1;
        for (int i = 0; i < exceptions; i++) {
            bit = at;
            int which = (int) take(4);
            if (which >= partCount || which <= last) {
                throw new Fault(5, bit);
            }
            last = which;
            bit = at;
            long rest = take(32 - width);
            if (rest == 0) {
                throw new Fault(6, bit);
            }
            parts[which] += rest << width;
        }
        List<Integer> places = valuesOf(empty, form, base, step, parts);
        Block block = new Block(places, form, width, step);
        if (form == 0 && block.base() != base) {
            throw new Fault(6, baseBit);
        }
        bit = at;
        while (at % 32 != 0) {
            if (take(1) != 0) {
                throw new Fault(7, bit);
            }
        }
        return block;
    }

    private static List<Integer> valuesOf(boolean[] empty, int form, int base, int step,
            long[] parts) {
        List<Integer> places = new ArrayList<>();
        int k = 0;
        int v = base;
        for (boolean e : empty) {
            if (e) {
                places.add(null);
                continue;
            }
            if (form == 0) {
                v = (int) (base + parts[k]);
            } else if (k > 0) {
                long p = parts[k - 1];
                long d = form == 2 ? p + step : p % 2 == 0 ? p / 2 : -(p + 1) / 2;
                v = (int) (v + d);
            }
            places.add(v);
            k++;
        }
        return places;
    }

    int open(int c) {
        if (no(c)) {
            return -2;
        }
        StringBuilder text = new StringBuilder();
        for (int w : tape) {
            number(text, w & 0xFFFFFFFFL, 32);
        }
        band = text.toString();
        at = 0;
        tape = new ArrayList<>();
        opened = true;
        List<Block> blocks = new ArrayList<>();
        try {
            while (at < band.length()) {
                blocks.add(takeBlock(blocks.size(), all(blocks).size()));
            }
        } catch (Fault f) {
            fault = f.kind;
            faultBit = f.bit;
            return -1;
        }
        fault = 0;
        faultBit = -1;
        step();
        become(c, blocks);
        return all(blocks).size();
    }

    int fault(int what) {
        return !opened ? -1 : what == 0 ? fault : what == 1 ? faultBit : -1;
    }

    int undo() {
        if (steps.isEmpty()) {
            return -1;
        }
        restore(steps.get(steps.size() - 1));
        steps = new ArrayList<>(steps.subList(0, steps.size() - 1));
        return steps.size();
    }

    int column(int c, int what) {
        if (no(c)) {
            return -1;
        }
        List<Block> blocks = columns.get(c);
        int words = 0;
        int waste = 0;
        int exceptions = 0;
        for (Block b : blocks) {
            words += b.words().size();
            waste += b.bits() - best(b.places).bits();
            exceptions += b.exceptions();
        }
        int[] found = {blocks.size(), all(c).size(), full(c).size(), bitsOf(blocks), words, waste,
            exceptions};
        return what < 0 || what > 6 ? -1 : found[what];
    }

    int block(int c, int b, int what) {
        Block block = at(c, b);
        if (block == null || what < 0 || what > 7) {
            return -1;
        }
        int[] found = {block.places.size(), block.values().size(), block.form, block.width,
            block.exceptions(), block.bits(), block.words().size(),
            all(columns.get(c).subList(0, b)).size()};
        return found[what];
    }

    int like(int c, int form, int width) {
        if (no(c) || form < -1 || form > 2 || width < -1 || width > 32) {
            return -1;
        }
        int n = 0;
        for (Block b : columns.get(c)) {
            if ((form == -1 || b.form == form) && (width == -1 || b.width == width)) {
                n++;
            }
        }
        return n;
    }

    int filled(int c) {
        return no(c) ? -1 : column(c, 4) * 32 - column(c, 3);
    }

    int empties(int c, int from, int to) {
        if (no(c) || from < 0 || from > to || to > all(c).size()) {
            return -1;
        }
        return Collections.frequency(all(c).subList(from, to), null);
    }

    int base(int c, int b, int what) {
        Block block = at(c, b);
        return block == null ? 0 : what == 0 ? block.base() : what == 1 ? block.step : 0;
    }

    int bits(int c, int b, int i) {
        Block block = at(c, b);
        return block == null || i < 0 || i >= block.words().size() ? 0 : block.words().get(i);
    }

    long bound(int c, int b, boolean high) {
        Block block = at(c, b);
        if (block == null || block.form != 0 || block.values().isEmpty()) {
            return ABSENT;
        }
        if (!high) {
            return block.base();
        }
        long most = (long) Math.pow(2, block.width) - 1;
        return block.exceptions() > 0 ? 2147483647L : Math.min(2147483647L, block.base() + most);
    }

    private static long told(Integer place) {
        return place == null ? EMPTY : place;
    }

    long value(int c, int place) {
        int[] w = where(c, place);
        return w == null ? ABSENT : told(columns.get(c).get(w[0]).places.get(w[1]));
    }

    int blockOf(int c, int place) {
        int[] w = where(c, place);
        return w == null ? -1 : w[0];
    }

    int read(int c, int place) {
        int[] w = where(c, place);
        if (w == null) {
            return -1;
        }
        Block b = columns.get(c).get(w[0]);
        if (b.places.get(w[1]) == null) {
            return 0;
        }
        return b.form == 0 ? 1 : new Block(b.places.subList(0, w[1]), 0, 0, 0).values().size();
    }

    boolean patched(int c, int place) {
        int[] w = where(c, place);
        if (w == null) {
            return false;
        }
        Block b = columns.get(c).get(w[0]);
        if (b.places.get(w[1]) == null) {
            return false;
        }
        int k = new Block(b.places.subList(0, w[1]), 0, 0, 0).values().size();
        if (b.form != 0 && k == 0) {
            return false;
        }
        return lengthOf(b.parts().get(b.form == 0 ? k : k - 1)) > b.width;
    }

    long part(int c, int b, int i) {
        Block block = at(c, b);
        return block == null || i < 0 || i >= block.parts().size() ? -1 : block.parts().get(i);
    }

    long pending(int i) {
        return i < 0 || i >= pending.size() ? ABSENT : told(pending.get(i));
    }

    int total(int form, int width) {
        if (pending.isEmpty() || !can(pending, form) || width < 0 || width > 32) {
            return -1;
        }
        return bitsOf(pending, form, width);
    }

    int best(int what) {
        if (pending.isEmpty() || what < 0 || what > 3) {
            return -1;
        }
        Block b = best(pending);
        return new int[] {b.form, b.width, b.bits(), b.exceptions()}[what];
    }

    int narrow(int form, int bits) {
        if (pending.isEmpty() || !can(pending, form) || bits < 0 || bits > 32) {
            return -1;
        }
        int n = 0;
        for (long p : tell(pending, form, 0).parts()) {
            n += lengthOf(p) == bits ? 1 : 0;
        }
        return n;
    }

    int least(int c) {
        return no(c) || columns.get(c).isEmpty() ? -1 : cutAnew(all(c)).get(0);
    }

    int cuts(int c, int i) {
        if (no(c) || columns.get(c).isEmpty()) {
            return -1;
        }
        List<Integer> plan = cutAnew(all(c));
        if (i == -1) {
            return plan.size() - 1;
        }
        return i < 0 || i >= plan.size() - 1 ? -1 : plan.get(i + 1);
    }

    int evenly(int c, int n) {
        return no(c) || n < 1 || n > 16 ? -1 : bitsOf(inBlocks(all(c), n));
    }

    int evenest(int c) {
        if (no(c) || columns.get(c).isEmpty()) {
            return -1;
        }
        int found = 1;
        for (int n = 2; n <= 16; n++) {
            if (evenly(c, n) < evenly(c, found)) {
                found = n;
            }
        }
        return found;
    }

    int heaviest(int c) {
        if (no(c) || columns.get(c).isEmpty()) {
            return -1;
        }
        List<Block> blocks = columns.get(c);
        int found = 0;
        for (int i = 1; i < blocks.size(); i++) {
            BigInteger mine = BigInteger.valueOf(blocks.get(i).bits())
                    .multiply(BigInteger.valueOf(blocks.get(found).places.size()));
            BigInteger its = BigInteger.valueOf(blocks.get(found).bits())
                    .multiply(BigInteger.valueOf(blocks.get(i).places.size()));
            if (mine.compareTo(its) > 0) {
                found = i;
            }
        }
        return found;
    }

    long folded(int d) {
        return foldOf(d);
    }

    long difference(int c, int place) {
        long mine = value(c, place);
        if (mine == ABSENT || mine == EMPTY) {
            return mine;
        }
        List<Integer> ahead = new ArrayList<>(all(c).subList(0, place));
        ahead.removeIf(Objects::isNull);
        return ahead.isEmpty() ? EMPTY : (int) (mine - ahead.get(ahead.size() - 1));
    }

    int would(int c, int place, int v) {
        int[] w = where(c, place);
        if (w == null) {
            return -1;
        }
        List<Block> blocks = new ArrayList<>(columns.get(c));
        List<Integer> places = new ArrayList<>(blocks.get(w[0]).places);
        places.set(w[1], v);
        blocks.set(w[0], best(places));
        return bitsOf(blocks);
    }

    boolean sorted(int c) {
        if (no(c)) {
            return false;
        }
        List<Integer> values = full(c);
        List<Integer> by = new ArrayList<>(values);
        Collections.sort(by);
        return by.equals(values);
    }

    int find(int c, int v) {
        if (!sorted(c)) {
            return -2;
        }
        List<Integer> places = all(c);
        for (int i = 0; i < places.size(); i++) {
            if (places.get(i) != null && places.get(i) >= v) {
                return i;
            }
        }
        return -1;
    }

    int looks(int c, int v) {
        if (!sorted(c)) {
            return -2;
        }
        List<Integer> bases = new ArrayList<>();
        for (Block b : columns.get(c)) {
            if (!b.values().isEmpty()) {
                bases.add(b.base());
            }
        }
        int n = 0;
        int low = 0;
        int high = bases.size();
        while (low < high) {
            int middle = Math.floorDiv(low + high, 2);
            n++;
            if (bases.get(middle) < v) {
                low = middle + 1;
            } else {
                high = middle;
            }
        }
        return n;
    }

    long sum(int c, int from, int to) {
        if (no(c) || from < 0 || from > to || to > all(c).size()) {
            return 0;
        }
        return all(c).subList(from, to).stream().filter(Objects::nonNull)
                .mapToLong(Integer::longValue).sum();
    }

    int count(int c, int low, int high) {
        return no(c) ? -1 : (int) full(c).stream().filter(v -> v >= low && v <= high).count();
    }

    int skipped(int c, int low, int high) {
        if (no(c)) {
            return -1;
        }
        int n = 0;
        for (Block b : columns.get(c)) {
            long reach = b.base() + (long) Math.pow(2, b.width) - 1;
            boolean plain = b.form == 0 && b.exceptions() == 0;
            if (b.values().isEmpty() || (plain && (b.base() > high || reach < low))) {
                n++;
            }
        }
        return n;
    }

    long ranked(int c, int k) {
        if (no(c) || k < 0 || k >= full(c).size()) {
            return ABSENT;
        }
        List<Integer> by = full(c);
        Collections.sort(by);
        return by.get(k);
    }

    int distinct(int c) {
        return no(c) ? -1 : new HashSet<>(full(c)).size();
    }

    int run(int c) {
        if (no(c)) {
            return -1;
        }
        List<Integer> values = full(c);
        int longest = 0;
        for (int i = 0; i < values.size(); i++) {
            int j = i;
            while (j < values.size() && values.get(j).equals(values.get(i))) {
                j++;
            }
            longest = Math.max(longest, j - i);
        }
        return longest;
    }

    int unlike(int c, int other) {
        if (no(c) || no(other)) {
            return -1;
        }
        List<Integer> one = all(c);
        List<Integer> two = all(other);
        return Arrays.mismatch(one.toArray(), two.toArray());
    }

    boolean alike(int c, int other) {
        return !no(c) && !no(other) && all(c).equals(all(other));
    }

    long ratio(int c) {
        if (no(c) || all(c).isEmpty()) {
            return 0;
        }
        return Double.doubleToLongBits(
                (double) bitsOf(columns.get(c)) / (32.0 * all(c).size()));
    }

    private int allPlaces() {
        return all(0).size() + all(1).size() + all(2).size();
    }

    int image() {
        image = new Object[] {columns, new ArrayList<>(pending), x, steps};
        return allPlaces();
    }

    @SuppressWarnings("unchecked")
    int back() {
        restore(image);
        steps = (List<Object[]>) image[3];
        return allPlaces();
    }

    int about(int what) {
        int[] found = {pending.size(), steps.size(), tape.size(), x};
        return what < 0 || what > 3 ? -1 : found[what];
    }
}
