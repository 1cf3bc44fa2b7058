/** Promises 14 to 16: nodes that fail, come back, are wiped. Rebuilding is told in RebuildingTest. */
public final class NodesTest {
    private static final int NONE = ShareStore.NONE, BAD = ShareStore.BAD, NO = ShareStore.NO;
    private static final int ALL = Stores.ALL;
    private static final int[] NO_NODES = {-1, 12, Integer.MIN_VALUE, Integer.MAX_VALUE};

    // ---- 14: fail

    static void promise14_aNodeFails() {
        for (int node : new int[] {0, 5, 11}) {
            ShareStore store = Stores.holding(0, 1, 50);
            Check.due("fail(" + node + ")", store.fail(node), 1);
            Check.due("live ones", store.count(0), 11);
            Check.due("fresh(" + node + ", 0)", store.fresh(node, 0), 0);
        }
    }

    static void promise14_allMayFail() {
        ShareStore store = new ShareStore();
        for (int node = 0; node < 12; node++) {
            Check.due("fail(" + node + ")", store.fail(node), 1);
            Check.due("live ones", store.count(0), 11 - node);
        }
    }

    static void promise14_itIsFailed() {
        ShareStore store = new ShareStore();
        store.fail(11);
        Check.due("again", store.fail(11), NO);
        Check.due("another", store.fail(10), 1);
        store.back(11);
        Check.due("back", store.fail(11), 1);
    }

    static void promise14_nodeIsNotAsTold() {
        for (int node : NO_NODES) {
            Check.due("fail(" + node + ")", new ShareStore().fail(node), BAD);
        }
    }

    // ---- 15: back

    /** Object 0 has a record and a shadow everywhere; 1 a shadow at 0 .. 4; 2 one at 1 .. 11; 3 one without blocks. */
    private static ShareStore withShadows() {
        ShareStore store = Stores.holding(0, 1, 50);
        Stores.cutPut(store, 0, 2, 70, 12);
        Stores.cutPut(store, 1, 3, 20, 5);
        Stores.cutPut(store, 2, 3, 20, 13);
        Stores.cutRemove(store, 3, 12);
        return store;
    }

    static void promise15_answersHowManyShadowsWereGivenUp() {
        ShareStore store = withShadows();
        Stores.fail(store, 0, 4, 5);
        Check.due("of all four", store.back(4), 4);
        Check.due("the second was not sent", store.back(5), 3);
        Check.due("the third was flipped", store.back(0), 3);
    }

    static void promise15_shadowsWithoutBlocksCountToo() {
        ShareStore store = new ShareStore();
        Stores.cutRemove(store, 3, 12);
        store.fail(9);
        Check.due("back(9)", store.back(9), 1);
        Check.due("free(9)", store.free(9), 40);
    }

    static void promise15_withoutShadowsItIs0() {
        ShareStore store = Stores.holding(0, 1, 50);
        store.fail(0);
        Check.due("back(0)", store.back(0), 0);
        store = withShadows();
        store.fail(4);
        store.back(4);
        store.fail(4);
        Check.due("the second time", store.back(4), 0);
    }

    static void promise15_theBlocksOfTheShadowsAreFree() {
        ShareStore store = withShadows();
        store.fail(4);
        Check.due("failed", store.free(4), 40 - 2 - 3 - 1 - 1);
        store.back(4);
        Check.due("back", store.free(4), 38);
        for (int object = 0; object < 4; object++) {
            Check.due("shadow of " + object, store.record(4, object, 3), NONE);
        }
    }

    static void promise15_itsRecordsStay() {
        ShareStore store = withShadows();
        Stores.fail(store, 0, 4);
        Stores.back(store, 0, 4);
        Stores.dueRecord("old one", store, 4, 0, 1, 50, 2, NONE, NONE, NONE);
        Stores.dueRecord("flipped one", store, 0, 2, 1, 20, 1, NONE, NONE, NONE);
        Stores.dueShares("old one", store, 4, 0, 1, 50);
    }

    static void promise15_theObjectsStayOpen() {
        ShareStore store = withShadows();
        store.fail(4);
        store.back(4);
        Check.due("open ones", store.count(4), 4);
        Check.due("the others' shadows", store.record(3, 0, 3), 2);
    }

    static void promise15_itIsLiveThen() {
        ShareStore store = new ShareStore();
        store.fail(11);
        store.back(11);
        Check.due("live ones", store.count(0), 12);
        Stores.put(store, 0, 1, 5);
        Check.due("it gets messages", store.record(11, 0, 0), 1);
    }

    static void promise15_itIsLiveAlready() {
        ShareStore store = withShadows();
        Check.due("back(4)", store.back(4), NO);
        Check.due("its shadow stays", store.record(4, 0, 3), 2);
    }

    static void promise15_nodeIsNotAsTold() {
        for (int node : NO_NODES) {
            Check.due("back(" + node + ")", new ShareStore().back(node), BAD);
        }
    }

    // ---- 16: wipe

    static void promise16_answersHowManyBlocksWereNotFree() {
        ShareStore store = Stores.holding(0, 1, 50);
        Stores.put(store, 5, 1, 240);
        Stores.cutPut(store, 0, 2, 70, 12);
        Check.due("records and shadows", store.wipe(3), 2 + 8 + 3);
        Check.due("again", store.wipe(3), 0);
    }

    static void promise16_ofNoBlocksAndOfAllForty() {
        Check.due("new", new ShareStore().wipe(0), 0);
        ShareStore store = new ShareStore();
        store.remove(0);
        Check.due("a record without blocks", store.wipe(0), 0);
        Check.due("is gone all the same", store.record(0, 0, 0), NONE);
        Check.due("crammed", Stores.crammed().wipe(11), 40);
    }

    static void promise16_itHasNothingThen() {
        ShareStore store = Stores.holding(0, 1, 50);
        Stores.put(store, 5, 1, 240);
        Stores.cutPut(store, 0, 2, 70, 12);
        store.wipe(3);
        for (int object = 0; object < 6; object++) {
            Stores.dueRecord("wiped", store, 3, object, NONE, NONE, NONE, NONE, NONE, NONE);
        }
        for (int block = 0; block < 40; block++) {
            Check.due("byte of block " + block, store.byteOf(3, block, 0), NONE);
        }
        Check.due("free(3)", store.free(3), 40);
        Check.due("others keep theirs", store.free(4), 27);
    }

    static void promise16_aFailedOneIsLiveThen() {
        ShareStore store = Stores.holding(0, 1, 50);
        store.fail(4);
        Check.due("wipe(4)", store.wipe(4), 2);
        Check.due("live ones", store.count(0), 12);
        Check.due("back(4)", store.back(4), NO);
    }

    static void promise16_aLiveOneStaysLive() {
        ShareStore store = new ShareStore();
        store.wipe(4);
        Check.due("live ones", store.count(0), 12);
        Check.due("back(4)", store.back(4), NO);
    }

    static void promise16_theObjectsStayOpen() {
        ShareStore store = new ShareStore();
        Stores.cutPut(store, 0, 1, 5, 13);
        for (int node = 0; node < 12; node++) {
            store.wipe(node);
        }
        Check.due("open(0)", store.open(0), 1);
        Check.due("settle(0)", store.settle(0), 0);
        Check.due("versions go on", Stores.put(store, 0, 1, 9), 2);
    }

    static void promise16_whatItSentEverStays() {
        ShareStore store = Stores.holding(0, 1, 50);
        store.wipe(3);
        store.rebuild(3, ALL);
        store.wipe(0);
        Check.due("sent(0)", store.sent(0), 2);
        store.fail(1);
        store.wipe(1);
        Check.due("sent(1)", store.sent(1), 2);
    }

    static void promise16_nodeIsNotAsTold() {
        for (int node : NO_NODES) {
            Check.due("wipe(" + node + ")", new ShareStore().wipe(node), BAD);
        }
    }

    public static void main(String[] args) throws ReflectiveOperationException {
        Check.runPromises(NodesTest.class, 14, 16);
        Check.finish();
    }
}
