/** Promises 1 to 4: a new object, and the field. */
public final class FieldTest {
    private static final int BAD = ShareStore.BAD, NO = ShareStore.NO, NONE = ShareStore.NONE;
    private static final int[] NO_ELEMENTS = {-1, 256, 257, -256, Integer.MIN_VALUE, Integer.MAX_VALUE};
    private static final int[] NO_NODES = {-1, 12, Integer.MIN_VALUE, Integer.MAX_VALUE};
    private static final int[] NO_PLACES = {-1, 8, Integer.MIN_VALUE, Integer.MAX_VALUE};

    static void promise01_allNodesAreLive() {
        ShareStore store = new ShareStore();
        Check.due("count(0)", store.count(0), 12);
        for (int node = 0; node < 12; node++) {
            Check.due("back(" + node + ")", store.back(node), NO);
        }
    }

    static void promise01_nodesHaveNothing() {
        for (int node = 0; node < 12; node++) {
            ShareStore store = new ShareStore();
            for (int object = 0; object < 6; object++) {
                for (int what = 0; what < 6; what++) {
                    Check.due("record of " + node, store.record(node, object, what), NONE);
                }
                Check.due("block of " + node, store.block(node, object, 0, false), NONE);
                Check.due("shadow's block of " + node, store.block(node, object, 0, true), NONE);
                Check.due("fresh(" + node + ", " + object + ")", store.fresh(node, object), 0);
            }
            for (int block = 0; block < 40; block++) {
                Check.due("byteOf(" + node + ", " + block + ", 0)", store.byteOf(node, block, 0), NONE);
            }
            Check.due("free(" + node + ")", store.free(node), 40);
            Check.due("wipe(" + node + ")", store.wipe(node), 0);
        }
    }

    static void promise01_thereAreNoObjects() {
        ShareStore store = new ShareStore();
        for (int object = 0; object < 6; object++) {
            Check.due("version(" + object + ")", store.version(object), 0);
            Check.due("open(" + object + ")", store.open(object), 0);
            Check.due("get(" + object + ")", store.get(object, Stores.ALL), ShareStore.FEW);
        }
        Check.due("clear()", store.clear(), 0);
    }

    static void promise01_theTapeIsEmpty() {
        ShareStore store = new ShareStore();
        Check.due("count(1)", store.count(1), 0);
        Check.due("put(0)", store.put(0), ShareStore.EMPTY);
        Check.due("feed(7, 1)", store.feed(7L, 1), 1);
    }

    static void promise01_nothingWentYet() {
        ShareStore store = new ShareStore();
        Check.due("messages", store.count(2), 0);
        Check.due("symbols", store.count(3), 0);
        Check.due("open ones", store.count(4), 0);
        Check.due("no cut was told", store.count(5), NONE);
        Check.due("nothing was got", store.got(0), NONE);
        for (int node = 0; node < 12; node++) {
            Check.due("sent(" + node + ")", store.sent(node), 0);
        }
    }

    static void promise01_storesShareNothing() {
        ShareStore used = new ShareStore();
        Stores.put(used, 0, 1, 31);
        Stores.feed(used, 1, 5);
        used.get(0, Stores.ALL);
        used.fail(3);
        used.cut(3);
        Check.due("digest of another", new ShareStore().digest(), -1418934429383056437L);
        ShareStore store = new ShareStore();
        Check.due("tape of another", store.count(1), 0);
        Check.due("cut of another", store.count(5), NONE);
        Check.due("got of another", store.got(0), NONE);
        Check.due("the used one", used.version(0), 1);
    }

    static void promise02_productsOfAllElements() {
        for (int a = 0; a < 256; a++) {
            ShareStore store = new ShareStore();
            for (int b = 0; b < 256; b++) {
                Check.due("times(" + a + ", " + b + ")", store.times(a, b), Model.product(a, b));
            }
        }
    }

    static void promise02_leastAndGreatestElements() {
        ShareStore store = new ShareStore();
        Check.due("times(0, 0)", store.times(0, 0), 0);
        Check.due("times(0, 255)", store.times(0, 255), 0);
        Check.due("times(255, 0)", store.times(255, 0), 0);
        Check.due("times(1, 255)", store.times(1, 255), 255);
        Check.due("times(255, 255)", store.times(255, 255), 226);
    }

    static void promise02_aIsNotAsTold() {
        for (int no : NO_ELEMENTS) {
            Check.due("times(" + no + ", 1)", new ShareStore().times(no, 1), BAD);
            Check.due("times(" + no + ", 0)", new ShareStore().times(no, 0), BAD);
        }
    }

    static void promise02_bIsNotAsTold() {
        for (int no : NO_ELEMENTS) {
            Check.due("times(255, " + no + ")", new ShareStore().times(255, no), BAD);
            Check.due("times(0, " + no + ")", new ShareStore().times(0, no), BAD);
        }
    }

    static void promise03_quotientsOfAllElements() {
        for (int b = 1; b < 256; b++) {
            ShareStore store = new ShareStore();
            for (int x = 0; x < 256; x++) {
                int a = Model.product(b, x);
                Check.due("over(" + a + ", " + b + ")", store.over(a, b), x);
            }
        }
    }

    static void promise03_noughtOverAnythingIsNought() {
        ShareStore store = new ShareStore();
        Check.due("over(0, 1)", store.over(0, 1), 0);
        Check.due("over(0, 255)", store.over(0, 255), 0);
    }

    static void promise03_greatestElements() {
        ShareStore store = new ShareStore();
        Check.due("over(255, 255)", store.over(255, 255), 1);
        Check.due("over(255, 1)", store.over(255, 1), 255);
        Check.due("over(226, 255)", store.over(226, 255), 255);
    }

    static void promise03_bIsNought() {
        ShareStore store = new ShareStore();
        for (int a : new int[] {0, 1, 2, 254, 255}) {
            Check.due("over(" + a + ", 0)", store.over(a, 0), ShareStore.NOUGHT);
        }
    }

    static void promise03_aIsNotAsTold() {
        for (int no : NO_ELEMENTS) {
            Check.due("over(" + no + ", 1)", new ShareStore().over(no, 1), BAD);
        }
    }

    static void promise03_bIsNotAsTold() {
        for (int no : NO_ELEMENTS) {
            Check.due("over(1, " + no + ")", new ShareStore().over(1, no), BAD);
            Check.due("over(0, " + no + ")", new ShareStore().over(0, no), BAD);
        }
    }

    static void promise04_allRows() {
        ShareStore store = new ShareStore();
        for (int node = 0; node < 12; node++) {
            for (int c = 0; c < 8; c++) {
                Check.due("rowAt(" + node + ", " + c + ")", store.rowAt(node, c), Model.power(node, c));
            }
        }
    }

    static void promise04_firstAndLastBytes() {
        ShareStore store = new ShareStore();
        Check.due("rowAt(0, 0)", store.rowAt(0, 0), 1);
        Check.due("rowAt(0, 7)", store.rowAt(0, 7), 1);
        Check.due("rowAt(1, 7)", store.rowAt(1, 7), 128);
        Check.due("rowAt(11, 0)", store.rowAt(11, 0), 1);
        Check.due("rowAt(11, 1)", store.rowAt(11, 1), 12);
        Check.due("rowAt(11, 7)", store.rowAt(11, 7), 87);
    }

    static void promise04_nodeIsNotAsTold() {
        for (int no : NO_NODES) {
            Check.due("rowAt(" + no + ", 0)", new ShareStore().rowAt(no, 0), BAD);
        }
    }

    static void promise04_placeIsNotAsTold() {
        for (int no : NO_PLACES) {
            Check.due("rowAt(0, " + no + ")", new ShareStore().rowAt(0, no), BAD);
            Check.due("rowAt(11, " + no + ")", new ShareStore().rowAt(11, no), BAD);
        }
    }

    public static void main(String[] args) throws ReflectiveOperationException {
        Check.runPromises(FieldTest.class, 1, 4);
        Check.finish();
    }
}
