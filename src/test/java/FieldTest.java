/** Promises 1 to 4: a new object, and the field. */
public final class FieldTest {
    private static final int[] NO_ELEMENTS = {-1, 256, Integer.MIN_VALUE, Integer.MAX_VALUE};

    private static void promise1() {
        ShareStore store = new ShareStore();
        int[] counts = {12, 0, 0, 0, 0, ShareStore.NONE};
        for (int what = 0; what < 6; what++) {
            Check.due("1: new count(" + what + ")", store.count(what), counts[what]);
        }
        for (int node = 0; node < 12; node++) {
            Check.due("1: new sent(" + node + ")", store.sent(node), 0);
            Check.due("1: new free(" + node + ")", store.free(node), 40);
            Check.due("1: new back(" + node + ")", store.back(node), ShareStore.NO);
            for (int object = 0; object < 6; object++) {
                Check.due("1: new record", store.record(node, object, 0), ShareStore.NONE);
                Check.due("1: new shadow", store.record(node, object, 3), ShareStore.NONE);
            }
        }
        for (int object = 0; object < 6; object++) {
            Check.due("1: new version(" + object + ")", store.version(object), 0);
            Check.due("1: new open(" + object + ")", store.open(object), 0);
        }
        Check.due("1: new got(0)", store.got(0), ShareStore.NONE);
        Check.due("1: new put(0)", store.put(0), ShareStore.EMPTY);
        Stores.put(store, 0, 1, 31);
        Check.due("1: objects share nothing", new ShareStore().version(0), 0);
    }

    private static void promise2() {
        for (int a = 0; a < 256; a++) {
            ShareStore store = new ShareStore();
            for (int b = 0; b < 256; b++) {
                Check.due("2: times(" + a + ", " + b + ")", store.times(a, b), Model.product(a, b));
            }
        }
        ShareStore store = new ShareStore();
        Check.due("2: times(128, 2)", store.times(128, 2), 29);
        for (int no : NO_ELEMENTS) {
            Check.due("2: times(" + no + ", 1)", store.times(no, 1), ShareStore.BAD);
            Check.due("2: times(0, " + no + ")", store.times(0, no), ShareStore.BAD);
        }
    }

    private static void promise3() {
        for (int b = 1; b < 256; b++) {
            ShareStore store = new ShareStore();
            for (int x = 0; x < 256; x++) {
                int a = Model.product(b, x);
                Check.due("3: over(" + a + ", " + b + ")", store.over(a, b), x);
            }
        }
        ShareStore store = new ShareStore();
        Check.due("3: over(0, 0)", store.over(0, 0), ShareStore.NOUGHT);
        Check.due("3: over(255, 0)", store.over(255, 0), ShareStore.NOUGHT);
        for (int no : NO_ELEMENTS) {
            Check.due("3: over(" + no + ", 0)", store.over(no, 0), ShareStore.BAD);
            Check.due("3: over(1, " + no + ")", store.over(1, no), ShareStore.BAD);
        }
    }

    private static void promise4() {
        ShareStore store = new ShareStore();
        for (int node = 0; node < 12; node++) {
            for (int c = 0; c < 8; c++) {
                Check.due("4: rowAt(" + node + ", " + c + ")", store.rowAt(node, c), Model.power(node, c));
            }
        }
        Check.due("4: rowAt(11, 7)", store.rowAt(11, 7), 87);
        Check.due("4: rowAt(12, 0)", store.rowAt(12, 0), ShareStore.BAD);
        Check.due("4: rowAt(-1, 0)", store.rowAt(-1, 0), ShareStore.BAD);
        Check.due("4: rowAt(0, 8)", store.rowAt(0, 8), ShareStore.BAD);
        Check.due("4: rowAt(0, -1)", store.rowAt(0, -1), ShareStore.BAD);
        Check.due("4: rowAt(least, most)", store.rowAt(Integer.MIN_VALUE, Integer.MAX_VALUE), ShareStore.BAD);
    }

    public static void main(String[] args) {
        promise1();
        promise2();
        promise3();
        promise4();
        Check.finish();
    }
}
