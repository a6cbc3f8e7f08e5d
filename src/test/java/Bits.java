import java.util.ArrayList;
import java.util.List;

/** Numbers written one behind the other into words, each with its lowest bit first. */
final class Bits {
    private final List<Integer> words = new ArrayList<>();
    private int at;

    Bits of(long number, int bits) {
        for (int i = 0; i < bits; i++) {
            if (at % 32 == 0) {
                words.add(0);
            }
            int last = words.size() - 1;
            words.set(last, words.get(last) | (int) (number >> i & 1) << at % 32);
            at++;
        }
        return this;
    }

    /** Places without a mask, form, width, how many exceptions, base. */
    Bits head(int places, int form, int width, int exceptions, int base) {
        return of(places - 1, 4).of(0, 1).rest(form, width, exceptions, base);
    }

    /** Places with a mask, whose lowest bit is the first place. */
    Bits masked(int places, int mask, int form, int width, int exceptions, int base) {
        return of(places - 1, 4).of(1, 1).of(mask, places).rest(form, width, exceptions, base);
    }

    private Bits rest(int form, int width, int exceptions, int base) {
        return of(form, 2).of(width, 6).of(exceptions, 4).of(base, 32);
    }

    /** Each of these with so many bits. */
    Bits parts(int bits, long... parts) {
        for (long part : parts) {
            of(part, bits);
        }
        return this;
    }

    Bits fill() {
        return of(0, (32 - at % 32) % 32);
    }

    /** How many bits are written. */
    int at() {
        return at;
    }

    int size() {
        return words.size();
    }

    int word(int i) {
        return words.get(i);
    }

    void onto(PatchedColumns x) {
        for (int word : words) {
            x.word(word);
        }
    }

    PatchedColumns onTape() {
        PatchedColumns x = new PatchedColumns();
        onto(x);
        return x;
    }
}
