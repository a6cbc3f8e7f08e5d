import java.util.ArrayList;
import java.util.List;
import java.util.Random;

/** Runs of calls drawn by fixed seeds: every answer must be the model's. */
final class ModelTest {
    private static final int RUNS = 700;
    private static final int CALLS = 512;

    private final Random random;
    private final PatchedColumns made = new PatchedColumns();
    private final Model model = new Model();
    private final List<String> told = new ArrayList<>();
    private final int style;
    private int calls;
    private boolean wrong;

    private ModelTest(long seed) {
        random = new Random(seed);
        style = (int) (seed % 8);
    }

    public static void main(String[] args) {
        int runs = args.length > 0 ? Integer.parseInt(args[0]) : RUNS;
        long first = args.length > 1 ? Long.parseLong(args[1]) : 0;
        long answers = 0;
        int bad = 0;
        for (int seed = 0; seed < runs && bad < 3; seed++) {
            ModelTest run = new ModelTest(first + seed);
            run.go();
            answers += run.calls;
            if (run.wrong) {
                bad++;
                System.out.println("seed " + (first + seed) + ":");
                int from = Math.max(0, run.told.size() - 30);
                run.told.subList(from, run.told.size()).forEach(System.out::println);
            }
        }
        System.out.println("ModelTest: " + runs + " runs, " + answers + " answers, " + bad
                + " runs wrong");
        if (bad != 0) {
            System.exit(1);
        }
    }

    private void is(String call, long got, long want) {
        calls++;
        told.add(call + " = " + got + (got == want ? "" : ", due is " + want));
        if (got != want) {
            wrong = true;
        }
    }

    private void is(String call, boolean got, boolean want) {
        is(call, got ? 1 : 0, want ? 1 : 0);
    }

    private void go() {
        while (calls < CALLS && !wrong) {
            int kind = random.nextInt(100);
            if (kind < 45) {
                change();
            } else if (kind < 50) {
                feed();
            } else if (kind < 53) {
                openSomething();
            } else {
                ask();
            }
        }
    }

    // ---- what is drawn

    private int some(int n) {
        return random.nextInt(n);
    }

    private int col() {
        return some(30) == 0 ? (some(2) == 0 ? -1 - some(2) : 3 + some(2)) : some(10) < 6 ? 0 : some(3);
    }

    private int held(int c) {
        return c < 0 || c > 2 ? 3 : model.all(c).size();
    }

    private int place(int c) {
        return some(12) == 0 ? some(140) - 5 : some(held(c) + 1);
    }

    private int blk(int c) {
        int n = c < 0 || c > 2 ? 2 : model.columns.get(c).size();
        return some(12) == 0 ? some(28) - 2 : some(n + 1);
    }

    private int near;

    private int number() {
        switch (some(style == 7 ? 40 : 6) == 0 ? some(7) : style) {
            case 0:
                return some(8);
            case 1:
                near += some(5);
                return near;
            case 2:
                return some(9) == 0 ? random.nextInt() : 1000 + some(20);
            case 3:
                return random.nextInt() >> some(32);
            case 4:
                near += some(7) == 0 ? some(100000) : 13;
                return near;
            case 5:
                int[] edge = {Integer.MIN_VALUE, Integer.MAX_VALUE, -1, 0, 1, 1 << 30};
                return edge[some(edge.length)] + (some(3) == 0 ? some(3) - 1 : 0);
            case 7:
                // Narrow and wide by turns: fewest bits would be by more than 24 blocks.
                near++;
                return near / 4 % 2 == 0 ? 0 : 1000000000 + some(4096);
            default:
                return 5;
        }
    }

    private int any() {
        return some(4) == 0 ? random.nextInt() : number();
    }

    private int sizeOrNot(int n) {
        return some(n + 3) - 1;
    }

    // ---- calls that change

    private void change() {
        int c = col();
        int p = place(c);
        int b = blk(c);
        int v = number();
        switch (some(27)) {
            case 0: case 1: case 2: fill(); break;
            case 3: is("forget()", made.forget(), model.forget()); break;
            case 4: case 5: case 6: fill(); flush(c); break;
            case 7: flush(c); break;
            case 8: is("set(" + c + ", " + p + ", " + v + ")", made.set(c, p, v), model.set(c, p, v)); break;
            case 9: is("clear(" + c + ", " + p + ")", made.clear(c, p), model.clear(c, p)); break;
            case 10: case 11: is("insert(" + c + ", " + p + ", " + v + ")", made.insert(c, p, v), model.insert(c, p, v)); break;
            case 12: is("remove(" + c + ", " + p + ")", made.remove(c, p), model.remove(c, p)); break;
            case 13: case 14: split(c, b); break;
            case 15: int by = any(); is("shift(" + c + ", " + by + ")", made.shift(c, by), model.shift(c, by)); break;
            case 16: int o = col(); int i = col(); is("merge(" + c + ", " + o + ", " + i + ")", made.merge(c, o, i), model.merge(c, o, i)); break;
            case 17: copy(c); break;
            case 18: int w = col(); is("swap(" + c + ", " + w + ")", made.swap(c, w), model.swap(c, w)); break;
            case 19: is("drop(" + c + ", " + b + ")", made.drop(c, b), model.drop(c, b)); break;
            case 20: is("join(" + c + ")", made.join(c), model.join(c)); break;
            case 21: is("recut(" + c + ")", made.recut(c), model.recut(c)); break;
            case 22: case 23: walk(c, v); break;
            case 24: int x = some(5) == 0 ? any() : some(29990); is("tell(" + x + ")", made.tell(x), model.tell(x)); break;
            case 25: undo(); break;
            default:
                if (some(2) == 0) {
                    is("image()", made.image(), model.image());
                } else {
                    is("back()", made.back(), model.back());
                }
        }
    }

    private void undo() {
        int n = some(6) == 0 ? some(23) : 1;
        for (int i = 0; i < n; i++) {
            is("undo()", made.undo(), model.undo());
        }
    }

    private void fill() {
        int n = 1 + some(some(3) == 0 ? 18 : 5);
        for (int i = 0; i < n; i++) {
            if (some(8) == 0) {
                is("gap()", made.gap(), model.gap());
            } else {
                int v = number();
                is("put(" + v + ")", made.put(v), model.put(v));
            }
        }
        int form = sizeOrNot(3);
        int width = sizeOrNot(33);
        is("total(" + form + ", " + width + ")", made.total(form, width), model.total(form, width));
        is("narrow(" + form + ", " + width + ")", made.narrow(form, width), model.narrow(form, width));
        int what = sizeOrNot(4);
        is("best(" + what + ")", made.best(what), model.best(what));
        is("best(2)", made.best(2), model.best(2));
        int i = sizeOrNot(16);
        is("pending(" + i + ")", made.pending(i), model.pending(i));
    }

    private void flush(int c) {
        is("flush(" + c + ")", made.flush(c), model.flush(c));
    }

    private void split(int c, int b) {
        int n = some(17);
        is("split(" + c + ", " + b + ", " + n + ")", made.split(c, b, n), model.split(c, b, n));
    }

    private void copy(int c) {
        int from = place(c);
        int to = some(4) == 0 ? place(c) : from + some(20);
        int into = col();
        is("copy(" + c + ", " + from + ", " + to + ", " + into + ")", made.copy(c, from, to, into),
                model.copy(c, from, to, into));
    }

    private void walk(int c, int from) {
        int spread = some(15) == 0 ? sizeOrNot(100000) : some(3) == 0 ? 0 : some(1 << some(17));
        int n = some(12) == 0 ? some(60) - 5 : 1 + some(some(3) == 0 ? 48 : 10);
        is("walk(" + c + ", " + from + ", " + spread + ", " + n + ")",
                made.walk(c, from, spread, n), model.walk(c, from, spread, n));
    }

    // ---- the tape

    private void feed() {
        switch (some(5)) {
            case 0:
                int c = col();
                is("save(" + c + ")", made.save(c), model.save(c));
                break;
            case 1:
                int n = some(3) == 0 ? sizeOrNot(400) : some(model.tape.size() + 1);
                is("end(" + n + ")", made.end(n), model.end(n));
                break;
            case 2:
                int i = some(model.tape.size() + 2) - 1;
                is("tape(" + i + ")", made.tape(i), model.tape(i));
                break;
            default:
                word(random.nextInt() & random.nextInt());
        }
    }

    private void word(int w) {
        is("word(" + w + ")", made.word(w), model.word(w));
    }

    /** A tape of blocks told as BEST would not tell them, now and then with a bit that is wrong. */
    private void openSomething() {
        if (some(4) != 0) {
            is("end(0)", made.end(0), model.end(0));
        }
        int blocks = some(12) == 0 ? 25 : some(4);
        boolean little = some(2) == 0;
        for (int i = 0; i < blocks; i++) {
            List<Integer> words = new ArrayList<>(drawn(little ? 3 : 16).words());
            if (some(blocks + 2) == 0) {
                int w = some(3) == 0 ? some(words.size()) : 0;
                words.set(w, words.get(w) ^ 1 << some(32));
            }
            if (some(20) == 0) {
                words.remove(words.size() - 1);
            }
            if (some(20) == 0) {
                int last = words.size() - 1;
                if (last >= 0) {
                    words.set(last, words.get(last) ^ 1 << 31 - some(12));
                }
            }
            words.forEach(this::word);
        }
        int c = col();
        is("open(" + c + ")", made.open(c), model.open(c));
        int what = some(4) - 1;
        is("fault(" + what + ")", made.fault(what), model.fault(what));
        is("fault(0)", made.fault(0), model.fault(0));
        is("fault(1)", made.fault(1), model.fault(1));
        is("about(2)", made.about(2), model.about(2));
    }

    private Model.Block drawn(int most) {
        List<Integer> places = new ArrayList<>();
        int n = 1 + some(most);
        boolean gaps = some(3) == 0;
        for (int i = 0; i < n; i++) {
            places.add(gaps && some(3) == 0 ? null : Integer.valueOf(number()));
        }
        int form = some(3);
        while (!Model.can(places, form)) {
            form--;
        }
        int step = form == 2 ? some(2) == 0 ? any() : Model.tell(places, 2, 0).step : 0;
        Model.Block told = new Model.Block(places, form, some(33), step);
        return told.exceptions() > 15 ? new Model.Block(places, form, 32, step) : told;
    }

    // ---- calls that only ask

    private void ask() {
        int c = col();
        int p = place(c);
        int b = blk(c);
        int v = any();
        int to = some(4) == 0 ? place(c) : p + some(30);
        switch (some(38)) {
            case 0: case 1: int w = sizeOrNot(7); is("column(" + c + ", " + w + ")", made.column(c, w), model.column(c, w)); break;
            case 2: case 3: int y = sizeOrNot(8); is("block(" + c + ", " + b + ", " + y + ")", made.block(c, b, y), model.block(c, b, y)); break;
            case 4: int f = some(5) - 1; int wd = some(4) == 0 ? sizeOrNot(33) : some(6) - 1; is("like(" + c + ", " + f + ", " + wd + ")", made.like(c, f, wd), model.like(c, f, wd)); break;
            case 5: is("filled(" + c + ")", made.filled(c), model.filled(c)); break;
            case 6: is("empties(" + c + ", " + p + ", " + to + ")", made.empties(c, p, to), model.empties(c, p, to)); break;
            case 7: int z = some(4) - 1; is("base(" + c + ", " + b + ", " + z + ")", made.base(c, b, z), model.base(c, b, z)); break;
            case 8: case 9: int i = some(12) - 1; is("bits(" + c + ", " + b + ", " + i + ")", made.bits(c, b, i), model.bits(c, b, i)); break;
            case 10: boolean h = some(3) > 0; is("bound(" + c + ", " + b + ", " + h + ")", made.bound(c, b, h), model.bound(c, b, h)); break;
            case 11: case 12: is("value(" + c + ", " + p + ")", made.value(c, p), model.value(c, p)); break;
            case 13: is("blockOf(" + c + ", " + p + ")", made.blockOf(c, p), model.blockOf(c, p)); break;
            case 14: is("read(" + c + ", " + p + ")", made.read(c, p), model.read(c, p)); break;
            case 15: is("patched(" + c + ", " + p + ")", made.patched(c, p), model.patched(c, p)); break;
            case 16: int n = some(18) - 1; is("part(" + c + ", " + b + ", " + n + ")", made.part(c, b, n), model.part(c, b, n)); break;
            case 17: int t = sizeOrNot(4); is("about(" + t + ")", made.about(t), model.about(t)); break;
            case 18: if (some(3) == 0) { is("least(" + c + ")", made.least(c), model.least(c)); } break;
            case 19: if (some(3) == 0) { int k = some(26) - 2; is("cuts(" + c + ", " + k + ")", made.cuts(c, k), model.cuts(c, k)); } break;
            case 20: int e = some(19) - 1; is("evenly(" + c + ", " + e + ")", made.evenly(c, e), model.evenly(c, e)); break;
            case 21: if (some(3) == 0) { is("evenest(" + c + ")", made.evenest(c), model.evenest(c)); } break;
            case 22: is("heaviest(" + c + ")", made.heaviest(c), model.heaviest(c)); break;
            case 23: is("folded(" + v + ")", made.folded(v), model.folded(v)); break;
            case 24: is("difference(" + c + ", " + p + ")", made.difference(c, p), model.difference(c, p)); break;
            case 25: is("would(" + c + ", " + p + ", " + v + ")", made.would(c, p, v), model.would(c, p, v)); break;
            case 26: is("sorted(" + c + ")", made.sorted(c), model.sorted(c)); break;
            case 27: is("find(" + c + ", " + v + ")", made.find(c, v), model.find(c, v)); break;
            case 28: is("looks(" + c + ", " + v + ")", made.looks(c, v), model.looks(c, v)); break;
            case 29: is("sum(" + c + ", " + p + ", " + to + ")", made.sum(c, p, to), model.sum(c, p, to)); break;
            case 30: int g = any(); is("count(" + c + ", " + v + ", " + g + ")", made.count(c, v, g), model.count(c, v, g)); break;
            case 31: int j = any(); is("skipped(" + c + ", " + v + ", " + j + ")", made.skipped(c, v, j), model.skipped(c, v, j)); break;
            case 32: is("ranked(" + c + ", " + p + ")", made.ranked(c, p), model.ranked(c, p)); break;
            case 33: is("distinct(" + c + ")", made.distinct(c), model.distinct(c)); break;
            case 34: is("run(" + c + ")", made.run(c), model.run(c)); break;
            case 35: int o = col(); is("unlike(" + c + ", " + o + ")", made.unlike(c, o), model.unlike(c, o)); break;
            case 36: int q = col(); is("alike(" + c + ", " + q + ")", made.alike(c, q), model.alike(c, q)); break;
            default: is("ratio(" + c + ")", made.ratio(c), model.ratio(c));
        }
    }
}
