import java.util.ArrayList;
import java.util.Arrays;
import java.util.List;

/**
 * The document once more, in the slowest and plainest way: products bit by bit, every version's contents kept whole,
 * and shares always made from these, so that nothing is ever decoded or repaired. Tests hold ShareStore against it.
 */
final class Model {
    static final int NONE = -1, BAD = -2, NO = -3, FEW = -4, FULL = -5, EMPTY = -6, NOUGHT = -7;

    private static final class Part {
        final int version;
        final int[] contents;
        final List<Integer> blocks = new ArrayList<>();

        Part(int version, int[] contents) {
            this.version = version;
            this.contents = contents;
        }

        int stripes() {
            return (contents.length + 29) / 30;
        }
    }

    private static final class Place {
        boolean live = true;
        int sent = 0;
        final Part[] record = new Part[6];
        final Part[] shadow = new Part[6];

        List<Integer> used() {
            List<Integer> used = new ArrayList<>();
            for (int o = 0; o < 6; o++) {
                if (record[o] != null) {
                    used.addAll(record[o].blocks);
                }
                if (shadow[o] != null) {
                    used.addAll(shadow[o].blocks);
                }
            }
            return used;
        }

        Part part(int version, int[] contents, Part beside) {
            Part part = new Part(version, contents);
            List<Integer> used = used();
            if (beside != null) {
                used.addAll(beside.blocks);
            }
            for (int b = 0; b < 40 && part.blocks.size() < part.stripes(); b++) {
                if (!used.contains(b)) {
                    part.blocks.add(b);
                }
            }
            return part;
        }
    }

    private Place[] places = fresh();
    private int[] begun = new int[6];
    private boolean[] open = new boolean[6];
    private List<Integer> tape = new ArrayList<>();
    private int[] got = new int[0];
    private int cut = NONE;
    private int messages = 0;
    private int symbols = 0;

    private static Place[] fresh() {
        Place[] all = new Place[12];
        for (int i = 0; i < 12; i++) {
            all[i] = new Place();
        }
        return all;
    }

    static int product(int a, int b) {
        int sum = 0;
        for (int bit = 0; bit < 8; bit++) {
            if ((b >> bit & 1) == 1) {
                sum ^= a << bit;
            }
        }
        for (int bit = 15; bit >= 8; bit--) {
            if ((sum >> bit & 1) == 1) {
                sum ^= 285 << (bit - 8);
            }
        }
        return sum;
    }

    static int power(int node, int c) {
        int p = 1;
        for (int i = 0; i < c; i++) {
            p = product(p, node + 1);
        }
        return p;
    }

    /** Byte c of a node's share of stripe s of contents, from the matrix as the document draws it. */
    static int shareByte(int node, int[] contents, int s, int c) {
        int sum = 0;
        for (int r = 0; r < 8; r++) {
            sum ^= product(power(node, r), matrixAt(contents, s, Math.min(r, c), Math.max(r, c)));
        }
        return sum;
    }

    private static int matrixAt(int[] contents, int s, int r, int c) {
        int m;
        if (r >= 5) {
            return 0;
        } else if (c >= 5) {
            m = 15 + 3 * r + (c - 5);
        } else {
            int[] rowBegins = {0, 5, 9, 12, 14};
            m = rowBegins[r] + (c - r);
        }
        int at = 30 * s + m;
        return at < contents.length ? contents[at] : 0;
    }

    static int symbolOf(int helper, int node, int[] contents, int s) {
        int sum = 0;
        for (int c = 0; c < 8; c++) {
            sum ^= product(shareByte(helper, contents, s, c), power(node, c));
        }
        return sum;
    }

    private static boolean in(int a, int below) {
        return a >= 0 && a < below;
    }

    private int live() {
        int n = 0;
        for (Place p : places) {
            n += p.live ? 1 : 0;
        }
        return n;
    }

    private int newest(int o) {
        for (int v = begun[o]; v > 0; v--) {
            int n = 0;
            for (Place p : places) {
                n += p.live && p.record[o] != null && p.record[o].version == v ? 1 : 0;
            }
            if (n >= 5) {
                return v;
            }
        }
        return 0;
    }

    private boolean isFresh(int node, int o) {
        Place p = places[node];
        return p.live && p.record[o] != null && p.record[o].version == newest(o);
    }

    private int[] newestContents(int o) {
        for (int i = 0; i < 12; i++) {
            if (isFresh(i, o)) {
                return places[i].record[o].contents;
            }
        }
        return new int[0];
    }

    int times(int a, int b) {
        return in(a, 256) && in(b, 256) ? product(a, b) : BAD;
    }

    int over(int a, int b) {
        if (!in(a, 256) || !in(b, 256)) {
            return BAD;
        }
        for (int x = 0; b != 0 && x < 256; x++) {
            if (product(x, b) == a) {
                return x;
            }
        }
        return NOUGHT;
    }

    int rowAt(int node, int c) {
        return in(node, 12) && in(c, 8) ? power(node, c) : BAD;
    }

    int feed(long w, int n) {
        if (n < 1 || n > 8) {
            return BAD;
        }
        if (tape.size() + n > 240) {
            return FULL;
        }
        for (int i = 0; i < n; i++) {
            tape.add((int) ((w >>> (8 * (n - 1 - i))) & 0xffL));
        }
        return tape.size();
    }

    int cut(int n) {
        if (!in(n, 24)) {
            return BAD;
        }
        cut = n;
        return 1;
    }

    int put(int o) {
        if (!in(o, 6)) {
            return BAD;
        }
        if (open[o]) {
            return NO;
        }
        if (live() < 9) {
            return FEW;
        }
        for (Place p : places) {
            if (p.live && 40 - p.used().size() < (tape.size() + 29) / 30) {
                return FULL;
            }
        }
        if (tape.isEmpty()) {
            return EMPTY;
        }
        int[] contents = new int[tape.size()];
        for (int i = 0; i < contents.length; i++) {
            contents[i] = tape.get(i);
        }
        tape.clear();
        return write(o, contents);
    }

    int remove(int o) {
        if (!in(o, 6)) {
            return BAD;
        }
        if (open[o]) {
            return NO;
        }
        return live() < 9 ? FEW : write(o, new int[0]);
    }

    private int write(int o, int[] contents) {
        int version = ++begun[o];
        List<Place> reached = new ArrayList<>();
        for (Place p : places) {
            if (p.live) {
                reached.add(p);
            }
        }
        int stop = cut;
        cut = NONE;
        int done = 0;
        for (int round = 0; round < 2; round++) {
            for (Place p : reached) {
                if (done == stop) {
                    open[o] = true;
                    return 0;
                }
                if (round == 0) {
                    p.shadow[o] = p.part(version, contents, null);
                } else {
                    p.record[o] = p.shadow[o];
                    p.shadow[o] = null;
                }
                done++;
                messages++;
            }
        }
        return version;
    }

    int settle(int o) {
        if (!in(o, 6)) {
            return BAD;
        }
        if (!open[o]) {
            return NO;
        }
        boolean taken = false;
        for (Place p : places) {
            taken |= p.record[o] != null && p.record[o].version == begun[o];
        }
        for (Place p : places) {
            if (p.live && p.shadow[o] != null && p.shadow[o].version == begun[o]) {
                if (taken) {
                    p.record[o] = p.shadow[o];
                }
                p.shadow[o] = null;
            }
        }
        open[o] = false;
        return taken ? 1 : 0;
    }

    int get(int o, int nodes) {
        if (!in(o, 6)) {
            return BAD;
        }
        if (open[o]) {
            return NO;
        }
        int n = 0;
        for (int i = 0; i < 12; i++) {
            n += (nodes & (1 << i)) != 0 && isFresh(i, o) ? 1 : 0;
        }
        if (n < 5) {
            return FEW;
        }
        int[] contents = newestContents(o);
        if (contents.length == 0) {
            return EMPTY;
        }
        got = contents;
        return contents.length;
    }

    int got(int i) {
        return in(i, got.length) ? got[i] : NONE;
    }

    int version(int o) {
        return in(o, 6) ? newest(o) : BAD;
    }

    int open(int o) {
        return in(o, 6) ? open[o] ? 1 : 0 : BAD;
    }

    int fail(int node) {
        if (!in(node, 12)) {
            return BAD;
        }
        if (!places[node].live) {
            return NO;
        }
        places[node].live = false;
        return 1;
    }

    int back(int node) {
        if (!in(node, 12)) {
            return BAD;
        }
        if (places[node].live) {
            return NO;
        }
        int given = 0;
        for (int o = 0; o < 6; o++) {
            given += places[node].shadow[o] != null ? 1 : 0;
            places[node].shadow[o] = null;
        }
        places[node].live = true;
        return given;
    }

    int wipe(int node) {
        if (!in(node, 12)) {
            return BAD;
        }
        Place old = places[node];
        places[node] = new Place();
        places[node].sent = old.sent;
        return old.used().size();
    }

    int rebuild(int node, int helpers) {
        if (!in(node, 12)) {
            return BAD;
        }
        Place lost = places[node];
        if (!lost.live) {
            return NO;
        }
        int used = lost.used().size();
        boolean few = false;
        boolean full = false;
        for (int o = 0; o < 6; o++) {
            if (open[o] || newest(o) == 0 || isFresh(node, o)) {
                continue;
            }
            int[] contents = newestContents(o);
            few |= contents.length > 0 && helpersOf(node, o, helpers).size() < 8;
            used -= lost.record[o] == null ? 0 : lost.record[o].stripes();
            used += (contents.length + 29) / 30;
            full |= used > 40;
        }
        if (few || full) {
            return few ? FEW : FULL;
        }
        int sum = 0;
        for (int o = 0; o < 6; o++) {
            if (open[o] || newest(o) == 0 || isFresh(node, o)) {
                continue;
            }
            int version = newest(o);
            int[] contents = newestContents(o);
            lost.record[o] = null;
            Part made = lost.part(version, contents, null);
            if (contents.length > 0) {
                List<Integer> ready = helpersOf(node, o, helpers);
                ready.sort((a, b) -> places[a].sent != places[b].sent ? places[a].sent - places[b].sent : a - b);
                for (int helper : ready.subList(0, 8)) {
                    places[helper].sent += made.stripes();
                    sum += made.stripes();
                }
            }
            lost.record[o] = made;
        }
        symbols += sum;
        return sum;
    }

    private List<Integer> helpersOf(int node, int o, int helpers) {
        List<Integer> ready = new ArrayList<>();
        for (int i = 0; i < 12; i++) {
            if (i != node && (helpers & (1 << i)) != 0 && isFresh(i, o)) {
                ready.add(i);
            }
        }
        return ready;
    }

    int fresh(int node, int o) {
        return in(node, 12) && in(o, 6) ? isFresh(node, o) ? 1 : 0 : BAD;
    }

    int sent(int node) {
        return in(node, 12) ? places[node].sent : BAD;
    }

    int free(int node) {
        return in(node, 12) ? 40 - places[node].used().size() : BAD;
    }

    int record(int node, int o, int what) {
        if (!in(node, 12) || !in(o, 6) || !in(what, 6)) {
            return BAD;
        }
        Part part = what < 3 ? places[node].record[o] : places[node].shadow[o];
        if (part == null) {
            return NONE;
        }
        return new int[] {part.version, part.contents.length, part.stripes()}[what % 3];
    }

    int block(int node, int o, int s, boolean shadow) {
        if (!in(node, 12) || !in(o, 6)) {
            return BAD;
        }
        Part part = shadow ? places[node].shadow[o] : places[node].record[o];
        return part != null && in(s, part.blocks.size()) ? part.blocks.get(s) : NONE;
    }

    int byteOf(int node, int block, int i) {
        if (!in(node, 12) || !in(block, 40) || !in(i, 8)) {
            return BAD;
        }
        for (int o = 0; o < 6; o++) {
            for (Part part : Arrays.asList(places[node].record[o], places[node].shadow[o])) {
                if (part != null && part.blocks.contains(block)) {
                    return shareByte(node, part.contents, part.blocks.indexOf(block), i);
                }
            }
        }
        return NONE;
    }

    int symbol(int helper, int node, int o, int s) {
        if (!in(helper, 12) || !in(node, 12) || !in(o, 6)) {
            return BAD;
        }
        Part part = places[helper].record[o];
        return part != null && in(s, part.stripes()) ? symbolOf(helper, node, part.contents, s) : NONE;
    }

    int count(int what) {
        int opened = 0;
        for (boolean one : open) {
            opened += one ? 1 : 0;
        }
        return in(what, 6) ? new int[] {live(), tape.size(), messages, symbols, opened, cut}[what] : BAD;
    }

    long digest() {
        List<Long> all = new ArrayList<>();
        for (int i = 0; i < 12; i++) {
            all.add(places[i].live ? 1L : 0L);
            all.add((long) sent(i));
            all.add((long) free(i));
            for (int o = 0; o < 6; o++) {
                for (int what = 0; what < 6; what++) {
                    all.add((long) record(i, o, what));
                }
                for (int s = 0; block(i, o, s, false) != NONE; s++) {
                    for (int c = 0; c < 8; c++) {
                        all.add((long) shareByte(i, places[i].record[o].contents, s, c));
                    }
                }
            }
        }
        long h = 11;
        for (long v : all) {
            h = 31 * h + v;
        }
        return h;
    }

    int clear() {
        int known = 0;
        for (int o = 0; o < 6; o++) {
            known += newest(o) > 0 ? 1 : 0;
        }
        places = fresh();
        begun = new int[6];
        open = new boolean[6];
        tape = new ArrayList<>();
        cut = NONE;
        return known;
    }
}
