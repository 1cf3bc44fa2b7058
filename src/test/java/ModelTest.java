/**
 * Long runs of calls, each answered by ShareStore and by the Model. The arguments come from a counter that is stirred,
 * so every run is the same each time.
 */
public final class ModelTest {
    private static final int CALLS = 512;
    private static final int[] EDGES = {-1, 5, 6, 7, 8, 11, 12, 13, 23, 24, 39, 40, 255, 256,
        Integer.MIN_VALUE, Integer.MAX_VALUE, 1 << 16, -4096};

    private final ShareStore store = new ShareStore();
    private final Model model = new Model();
    private final String name;
    private long seed;
    private int calls = 0;

    private ModelTest(String name, long seed) {
        this.name = name;
        this.seed = seed;
    }

    private int pick(int below) {
        seed = seed * 6364136223846793005L + 1442695040888963407L;
        return (int) ((seed >>> 33) % below);
    }

    /** Mostly a number below the bound, now and then one that is likely not as told. */
    private int number(int below) {
        return pick(40) == 0 ? EDGES[pick(EDGES.length)] : pick(below);
    }

    private int mask() {
        switch (pick(6)) {
            case 0:
                return pick(4096);
            case 1:
                return 4095 & ~(1 << pick(12)) & ~(1 << pick(12));
            case 2:
                return -1 << pick(6);
            case 3:
                return pick(4096) | pick(4096) | pick(4096) | 1 << 12;
            default:
                return 4095;
        }
    }

    private void due(String call, long got, long want) {
        calls++;
        Check.due(name + " call " + calls + ": " + call, got, want);
    }

    private void feed(int n) {
        long w = (long) pick(1 << 30) << 34 ^ (long) pick(1 << 30) << 10 ^ pick(1 << 30);
        due("feed(" + w + ", " + n + ")", store.feed(w, n), model.feed(w, n));
    }

    private void feedMany(int bytes) {
        for (int left = bytes; left > 0; left -= 8) {
            feed(Math.min(left, 8));
        }
    }

    private void put(int o) {
        due("put(" + o + ")", store.put(o), model.put(o));
    }

    private void fail(int node) {
        due("fail(" + node + ")", store.fail(node), model.fail(node));
    }

    private void back(int node) {
        due("back(" + node + ")", store.back(node), model.back(node));
    }

    private void rebuild(int node, int helpers) {
        due("rebuild(" + node + ", " + helpers + ")", store.rebuild(node, helpers), model.rebuild(node, helpers));
    }

    private void get(int o, int nodes) {
        int answer = store.get(o, nodes);
        due("get(" + o + ", " + nodes + ")", answer, model.get(o, nodes));
        for (int k = 0; k < 6; k++) {
            int i = k == 0 ? answer - 1 : k == 1 ? answer : pick(Math.max(answer, 2));
            due("got(" + i + ")", store.got(i), model.got(i));
        }
    }

    private void look() {
        int node = number(12);
        int o = number(6);
        int s = number(9) - 1;
        int i = number(9);
        switch (pick(12)) {
            case 0:
                due("version(" + o + ")", store.version(o), model.version(o));
                break;
            case 1:
                due("open(" + o + ")", store.open(o), model.open(o));
                break;
            case 2:
                due("fresh(" + node + ", " + o + ")", store.fresh(node, o), model.fresh(node, o));
                break;
            case 3:
                due("sent(" + node + ")", store.sent(node), model.sent(node));
                break;
            case 4:
                due("free(" + node + ")", store.free(node), model.free(node));
                break;
            case 5:
                due("record(" + node + ", " + o + ", " + i + ")", store.record(node, o, i), model.record(node, o, i));
                break;
            case 6:
                boolean shadow = pick(2) == 0;
                due("block(" + node + ", " + o + ", " + s + ", " + shadow + ")",
                    store.block(node, o, s, shadow), model.block(node, o, s, shadow));
                break;
            case 7:
                int b = number(pick(2) == 0 ? 8 : 41);
                due("byteOf(" + node + ", " + b + ", " + i + ")", store.byteOf(node, b, i), model.byteOf(node, b, i));
                break;
            case 8:
                int lost = number(12);
                due("symbol(" + node + ", " + lost + ", " + o + ", " + s + ")",
                    store.symbol(node, lost, o, s), model.symbol(node, lost, o, s));
                break;
            case 9:
                due("count(" + i + ")", store.count(i), model.count(i));
                break;
            case 10:
                due("got(" + i + ")", store.got(i), model.got(i));
                break;
            default:
                arithmetic();
        }
    }

    private void arithmetic() {
        int a = number(256);
        int b = number(pick(3) == 0 ? 2 : 256);
        int node = number(12);
        int c = number(8);
        due("times(" + a + ", " + b + ")", store.times(a, b), model.times(a, b));
        due("over(" + a + ", " + b + ")", store.over(a, b), model.over(a, b));
        due("rowAt(" + node + ", " + c + ")", store.rowAt(node, c), model.rowAt(node, c));
    }

    private void change(int biggest) {
        int o = number(6);
        int node = number(12);
        int n;
        switch (pick(13)) {
            case 0:
            case 1:
            case 2:
                feedMany(1 + pick(biggest));
                put(o);
                break;
            case 3:
                due("remove(" + o + ")", store.remove(o), model.remove(o));
                break;
            case 4:
            case 5:
                n = number(25);
                due("cut(" + n + ")", store.cut(n), model.cut(n));
                break;
            case 6:
                due("settle(" + o + ")", store.settle(o), model.settle(o));
                break;
            case 7:
                fail(node);
                break;
            case 8:
            case 9:
                back(node);
                break;
            case 10:
                n = mask();
                rebuild(node, n);
                break;
            case 11:
                get(o, mask());
                break;
            default:
                rare(node);
        }
    }

    private void rare(int node) {
        switch (pick(10)) {
            case 0:
                due("clear()", store.clear(), model.clear());
                break;
            case 1:
            case 2:
            case 3:
                wipe(node);
                break;
            case 4:
                feed(number(10));
                break;
            default:
                digest();
        }
    }

    private void wipe(int node) {
        due("wipe(" + node + ")", store.wipe(node), model.wipe(node));
    }

    private void digest() {
        due("digest()", store.digest(), model.digest());
    }

    private void mixed(int biggest, int looks) {
        while (calls < CALLS - 40) {
            change(biggest);
            for (int i = 0; i < looks; i++) {
                look();
            }
        }
        digest();
    }

    /** Fills the store, so that put() and rebuild() run out of blocks. */
    private void crowded() {
        for (int o = 0; o < 6; o++) {
            feedMany(180 + pick(60));
            put(o);
            int node = number(12);
            if (pick(2) == 0) {
                fail(node);
            } else {
                back(node);
            }
            digest();
        }
        for (int round = 0; calls < CALLS - 70; round++) {
            int o = number(6);
            switch (pick(7)) {
                case 0:
                    feedMany(1 + pick(200));
                    put(o);
                    break;
                case 1:
                    due("remove(" + o + ")", store.remove(o), model.remove(o));
                    break;
                case 2:
                    fail(number(12));
                    break;
                case 3:
                    int node = number(12);
                    back(node);
                    rebuild(node, 4095);
                    break;
                case 4:
                    get(o, mask());
                    break;
                default:
                    rebuild(number(12), mask());
                    digest();
            }
        }
        digest();
    }

    /** Loses nodes and makes them anew, while objects come, change and go; few fail at a time, so that helpers last. */
    private void losing() {
        for (int o = 0; o < 6; o++) {
            feedMany(1 + pick(o < 3 ? 240 : 60));
            put(o);
        }
        while (calls < CALLS - 70) {
            int node = pick(12);
            fail(node);
            int o = number(6);
            if (pick(3) == 0) {
                due("remove(" + o + ")", store.remove(o), model.remove(o));
            } else {
                if (pick(4) == 0) {
                    due("cut(20)", store.cut(20), model.cut(20));
                }
                feedMany(1 + pick(240));
                put(o);
            }
            if (pick(2) == 0) {
                wipe(pick(12));
            }
            back(node);
            rebuild(node, mask());
            rebuild(pick(12), mask());
            get(o, mask());
            due("settle(" + o + ")", store.settle(o), model.settle(o));
            due("sent(" + node + ")", store.sent(node), model.sent(node));
            digest();
        }
        for (int node = 0; node < 12; node++) {
            due("sent(" + node + ")", store.sent(node), model.sent(node));
        }
    }

    public static void main(String[] args) {
        for (int run = 0; run < 150; run++) {
            new ModelTest("small run " + run, 1000 + run).mixed(20, 1);
            new ModelTest("wide run " + run, 2000 + run).mixed(100, 0);
            new ModelTest("watched run " + run, 3000 + run).mixed(40, 3);
            new ModelTest("losing run " + run, 5000 + run).losing();
            new ModelTest("crowded run " + run, 4000 + run).crowded();
        }
        Check.finish();
    }
}
