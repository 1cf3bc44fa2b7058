/** Stores brought to the states that several tests begin with. */
final class Stores {
    static final int ALL = 4095;

    private Stores() {
    }

    /** Byte i of the contents that a test feeds under a number; never 0, so that a padding byte is seen. */
    static int byteOf(int number, int i) {
        return 1 + (number * 37 + i * 11 + i * i) % 255;
    }

    static int[] contents(int number, int bytes) {
        int[] all = new int[bytes];
        for (int i = 0; i < bytes; i++) {
            all[i] = byteOf(number, i);
        }
        return all;
    }

    static void feed(ShareStore store, int number, int bytes) {
        for (int i = 0; i < bytes; i += 8) {
            int n = Math.min(8, bytes - i);
            long w = 0;
            for (int k = 0; k < n; k++) {
                w = w << 8 | byteOf(number, i + k);
            }
            store.feed(w, n);
        }
    }

    static int put(ShareStore store, int object, int number, int bytes) {
        feed(store, number, bytes);
        return store.put(object);
    }

    static int cutPut(ShareStore store, int object, int number, int bytes, int behind) {
        feed(store, number, bytes);
        store.cut(behind);
        return store.put(object);
    }

    static void fail(ShareStore store, int... nodes) {
        for (int node : nodes) {
            store.fail(node);
        }
    }

    static void back(ShareStore store, int... nodes) {
        for (int node : nodes) {
            store.back(node);
        }
    }

    static void dueGot(String call, ShareStore store, int number, int bytes) {
        for (int i = 0; i < bytes; i++) {
            Check.due(call + ", then got(" + i + ")", store.got(i), byteOf(number, i));
        }
        Check.due(call + ", then got(" + bytes + ")", store.got(bytes), ShareStore.NONE);
    }

    /** In one number, of few calls, what a refused call must leave as it was. */
    static long state(ShareStore store) {
        long h = store.digest();
        for (int what = 0; what < 6; what++) {
            h = 37 * h + store.count(what);
        }
        for (int i = 0; i < 4; i++) {
            h = 37 * h + store.got(i);
        }
        for (int object = 0; object < 6; object++) {
            h = 37 * h + store.version(object);
            h = 37 * h + store.open(object);
        }
        return h;
    }
}
