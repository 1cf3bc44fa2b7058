/** Stores brought to the states that several tests begin with. */
final class Stores {
    static final int ALL = 4095;

    private Stores() {
    }

    /** Byte i of the contents that a test feeds under a number; never 0, so that a padding byte is seen. */
    static int byteOf(int number, int i) {
        return 1 + (number * 37 + i * 11 + i * i) % 255;
    }

    static int[] contents(int number, int bytes) {
        int[] all = new int[bytes];
        for (int i = 0; i < bytes; i++) {
            all[i] = byteOf(number, i);
        }
        return all;
    }

    static void feed(ShareStore store, int number, int bytes) {
        feed(store, contents(number, bytes));
    }

    static void feed(ShareStore store, int[] contents) {
        for (int i = 0; i < contents.length; i += 8) {
            int n = Math.min(8, contents.length - i);
            long w = 0;
            for (int k = 0; k < n; k++) {
                w = w << 8 | contents[i + k];
            }
            store.feed(w, n);
        }
    }

    static int put(ShareStore store, int object, int number, int bytes) {
        feed(store, number, bytes);
        return store.put(object);
    }

    static int cutPut(ShareStore store, int object, int number, int bytes, int behind) {
        feed(store, number, bytes);
        store.cut(behind);
        return store.put(object);
    }

    static int cutRemove(ShareStore store, int object, int behind) {
        store.cut(behind);
        return store.remove(object);
    }

    static void fail(ShareStore store, int... nodes) {
        for (int node : nodes) {
            store.fail(node);
        }
    }

    static void back(ShareStore store, int... nodes) {
        for (int node : nodes) {
            store.back(node);
        }
    }

    static void wipe(ShareStore store, int... nodes) {
        for (int node : nodes) {
            store.wipe(node);
        }
    }

    /** A new store in which an object has the contents of a number. */
    static ShareStore holding(int object, int number, int bytes) {
        ShareStore store = new ShareStore();
        put(store, object, number, bytes);
        return store;
    }

    /** A new store in which objects 0 .. 4 take up every block of every node. */
    static ShareStore crammed() {
        ShareStore store = new ShareStore();
        for (int object = 0; object < 5; object++) {
            put(store, object, object, 240);
        }
        return store;
    }

    /** A store in the midst of its work: of all that a call could change there is something. */
    static ShareStore busy() {
        ShareStore store = holding(0, 1, 31);
        put(store, 1, 2, 95);
        store.remove(2);
        cutPut(store, 3, 3, 40, 15);
        store.get(1, ALL);
        store.wipe(4);
        store.rebuild(4, ALL);
        store.fail(7);
        store.wipe(9);
        feed(store, 5, 12);
        store.cut(6);
        return store;
    }

    /** The busy store with eight live nodes. */
    static ShareStore busyWithEight() {
        ShareStore store = busy();
        fail(store, 9, 10, 11);
        return store;
    }

    static void dueGot(String call, ShareStore store, int number, int bytes) {
        for (int i = 0; i < bytes; i++) {
            Check.due(call + ", then got(" + i + ")", store.got(i), byteOf(number, i));
        }
        Check.due(call + ", then got(" + bytes + ")", store.got(bytes), ShareStore.NONE);
    }

    /** That a node has for an object, as its record, the shares of the contents of a number. */
    static void dueShares(String call, ShareStore store, int node, int object, int number, int bytes) {
        int[] contents = contents(number, bytes);
        for (int s = 0; s < (bytes + 29) / 30; s++) {
            int block = store.block(node, object, s, false);
            for (int c = 0; c < 8; c++) {
                Check.due(call + ": byte " + c + " of the share of stripe " + s + " at " + node,
                    store.byteOf(node, block, c), Model.shareByte(node, contents, s, c));
            }
        }
    }

    static void dueRecord(String call, ShareStore store, int node, int object, int... due) {
        for (int what = 0; what < 6; what++) {
            Check.due(call + ": record(" + node + ", " + object + ", " + what + ")", store.record(node, object, what),
                due[what]);
        }
    }

    static void dueSent(String call, ShareStore store, int... due) {
        for (int node = 0; node < 12; node++) {
            Check.due(call + ": sent(" + node + ")", store.sent(node), due[node]);
        }
    }
}
