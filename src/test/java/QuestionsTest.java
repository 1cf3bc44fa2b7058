/** Promises 18 to 27: what can be asked of nodes and of the store, and clear(). */
public final class QuestionsTest {
    private static final int NONE = ShareStore.NONE, BAD = ShareStore.BAD, NO = ShareStore.NO;
    private static final int ALL = Stores.ALL;
    private static final int DIGEST_STEPS = 5;
    // Behind 0, 1, .. steps; worked out by a telling of the document in another language, which is not kept here.
    private static final long[] DIGESTS = {-1418934429383056437L, -6412142104138226604L, 3821919949050708552L,
        5114343829362768357L, 93680386914336036L, 8258904372472953503L};
    private static final int[] NO_NODES = {-1, 12, Integer.MIN_VALUE, Integer.MAX_VALUE};
    private static final int[] NO_OBJECTS = {-1, 6, Integer.MIN_VALUE, Integer.MAX_VALUE};

    // ---- 18: fresh

    static void promise18_withoutAVersionNoneIsFresh() {
        ShareStore store = new ShareStore();
        Check.due("fresh(0, 0)", store.fresh(0, 0), 0);
        Check.due("fresh(11, 5)", store.fresh(11, 5), 0);
        Stores.cutPut(store, 2, 1, 5, 16);
        Check.due("four records make no version", store.fresh(0, 2), 0);
    }

    static void promise18_aLiveNodeWithTheNewestVersionIs() {
        ShareStore store = Stores.holding(5, 1, 5);
        Check.due("fresh(0, 5)", store.fresh(0, 5), 1);
        Check.due("fresh(11, 5)", store.fresh(11, 5), 1);
        Check.due("another object", store.fresh(11, 4), 0);
        store.remove(5);
        Check.due("removed", store.fresh(11, 5), 1);
    }

    static void promise18_aFailedNodeIsNot() {
        ShareStore store = Stores.holding(5, 1, 5);
        store.fail(11);
        Check.due("failed", store.fresh(11, 5), 0);
        store.back(11);
        Check.due("back", store.fresh(11, 5), 1);
    }

    static void promise18_anOldVersionIsNot() {
        ShareStore store = Stores.holding(5, 1, 5);
        store.fail(11);
        store.remove(5);
        store.back(11);
        Check.due("old", store.fresh(11, 5), 0);
    }

    static void promise18_aNewerVersionOfFewIsNot() {
        ShareStore store = Stores.holding(5, 1, 5);
        Stores.cutPut(store, 5, 2, 5, 16);
        Check.due("one of four", store.fresh(0, 5), 0);
        Check.due("one of eight", store.fresh(4, 5), 1);
    }

    static void promise18_aShadowIsNot() {
        ShareStore store = new ShareStore();
        Stores.cutPut(store, 3, 1, 5, 17);
        Check.due("record", store.fresh(4, 3), 1);
        Check.due("shadow", store.fresh(5, 3), 0);
    }

    static void promise18_aWipedNodeIsNot() {
        ShareStore store = Stores.holding(5, 1, 5);
        store.wipe(3);
        Check.due("wiped", store.fresh(3, 5), 0);
        store.rebuild(3, ALL);
        Check.due("made anew", store.fresh(3, 5), 1);
    }

    static void promise18_numbersAreNotAsTold() {
        ShareStore store = Stores.holding(0, 1, 5);
        for (int i = 0; i < NO_NODES.length; i++) {
            Check.due("no node", store.fresh(NO_NODES[i], 0), BAD);
            Check.due("no object", store.fresh(0, NO_OBJECTS[i]), BAD);
            Check.due("neither", store.fresh(NO_NODES[i], NO_OBJECTS[i]), BAD);
        }
    }

    // ---- 19: sent

    static void promise19_putsAndQuestionsSendNone() {
        ShareStore store = Stores.holding(0, 1, 91);
        store.symbol(3, 4, 0, 0);
        store.get(0, ALL);
        Stores.dueSent("none", store, 0, 0, 0, 0, 0, 0, 0, 0, 0, 0, 0, 0);
    }

    static void promise19_oneForEachStripe() {
        ShareStore store = Stores.holding(0, 1, 91);
        store.wipe(0);
        store.rebuild(0, 0x1FE);
        Stores.dueSent("1 .. 8", store, 0, 4, 4, 4, 4, 4, 4, 4, 4, 0, 0, 0);
    }

    static void promise19_ever() {
        ShareStore store = Stores.holding(0, 1, 91);
        store.wipe(0);
        store.rebuild(0, 0x1FE);
        store.wipe(0);
        store.rebuild(0, 0x1FE);
        Check.due("twice", store.sent(3), 8);
        store.fail(3);
        Check.due("failed", store.sent(3), 8);
        store.back(3);
        Check.due("back", store.sent(3), 8);
        store.wipe(3);
        Check.due("wiped", store.sent(3), 8);
        store.remove(0);
        Check.due("removed", store.sent(3), 8);
    }

    static void promise19_aRefusedRebuildSendsNone() {
        ShareStore store = Stores.holding(0, 1, 91);
        store.wipe(0);
        store.rebuild(0, 0xFE);
        Stores.dueSent("none", store, 0, 0, 0, 0, 0, 0, 0, 0, 0, 0, 0, 0);
    }

    static void promise19_nodeIsNotAsTold() {
        for (int node : NO_NODES) {
            Check.due("sent(" + node + ")", new ShareStore().sent(node), BAD);
        }
    }

    // ---- 20: free

    static void promise20_fromFortyToNought() {
        Check.due("new", new ShareStore().free(0), 40);
        Check.due("one stripe", Stores.holding(0, 1, 1).free(0), 39);
        Check.due("crammed", Stores.crammed().free(11), 0);
    }

    static void promise20_shadowsTakeBlocksToo() {
        ShareStore store = Stores.holding(0, 1, 240);
        Stores.cutPut(store, 0, 1, 31, 12);
        Check.due("with the shadow", store.free(0), 30);
        store.settle(0);
        Check.due("given up", store.free(0), 32);
    }

    static void promise20_failedNodesAreAnsweredToo() {
        ShareStore store = Stores.holding(0, 1, 240);
        store.fail(0);
        Check.due("failed", store.free(0), 32);
        store.remove(0);
        Check.due("it keeps them", store.free(0), 32);
        Check.due("others do not", store.free(1), 40);
    }

    static void promise20_nodeIsNotAsTold() {
        for (int node : NO_NODES) {
            Check.due("free(" + node + ")", new ShareStore().free(node), BAD);
        }
    }

    // ---- 21: record

    static void promise21_ofARecord() {
        ShareStore store = Stores.holding(2, 1, 35);
        Stores.put(store, 2, 1, 240);
        Stores.dueRecord("record alone", store, 11, 2, 2, 240, 8, NONE, NONE, NONE);
    }

    static void promise21_ofAShadow() {
        ShareStore store = new ShareStore();
        Stores.cutPut(store, 2, 1, 91, 12);
        Stores.dueRecord("shadow alone", store, 0, 2, NONE, NONE, NONE, 1, 91, 4);
    }

    static void promise21_ofBoth() {
        ShareStore store = Stores.holding(2, 1, 35);
        Stores.cutPut(store, 2, 1, 91, 12);
        Stores.dueRecord("both", store, 1, 2, 1, 35, 2, 2, 91, 4);
        store.fail(1);
        Stores.dueRecord("failed", store, 1, 2, 1, 35, 2, 2, 91, 4);
    }

    static void promise21_withoutContentsBytesAndStripesAreNought() {
        ShareStore store = Stores.holding(2, 1, 35);
        store.remove(2);
        Stores.cutRemove(store, 2, 12);
        Stores.dueRecord("removed twice", store, 1, 2, 2, 0, 0, 3, 0, 0);
    }

    static void promise21_thereIsNone() {
        ShareStore store = Stores.holding(2, 1, 35);
        Stores.dueRecord("another object", store, 1, 3, NONE, NONE, NONE, NONE, NONE, NONE);
        store.wipe(1);
        Stores.dueRecord("wiped", store, 1, 2, NONE, NONE, NONE, NONE, NONE, NONE);
    }

    static void promise21_numbersAreNotAsTold() {
        ShareStore store = Stores.holding(0, 1, 5);
        for (int i = 0; i < NO_NODES.length; i++) {
            Check.due("no node", store.record(NO_NODES[i], 0, 0), BAD);
            Check.due("no object", store.record(0, NO_OBJECTS[i], 0), BAD);
            Check.due("what is " + NO_OBJECTS[i], store.record(0, 0, NO_OBJECTS[i]), BAD);
            Check.due("what, of none, is " + NO_OBJECTS[i], store.record(0, 1, NO_OBJECTS[i]), BAD);
        }
    }

    // ---- 22: block

    /** Blocks 0 and 1 are free, 2 and 3 object 1's, 4 object 0's; 0, 1, 5 and 6 are of object 3's shadow. */
    private static ShareStore withGaps() {
        ShareStore store = Stores.holding(0, 1, 31);
        Stores.put(store, 1, 1, 31);
        Stores.put(store, 0, 1, 1);
        Stores.cutPut(store, 3, 1, 91, 12);
        return store;
    }

    static void promise22_ofARecord() {
        ShareStore store = withGaps();
        Check.due("object 0", store.block(9, 0, 0, false), 4);
        Check.due("object 1, first", store.block(9, 1, 0, false), 2);
        Check.due("object 1, last", store.block(9, 1, 1, false), 3);
    }

    static void promise22_ofAShadow() {
        ShareStore store = withGaps();
        int[] due = {0, 1, 5, 6};
        for (int s = 0; s < due.length; s++) {
            Check.due("stripe " + s, store.block(9, 3, s, true), due[s]);
        }
    }

    static void promise22_ofARecordAndAShadowOfOneObject() {
        ShareStore store = Stores.holding(0, 1, 31);
        Stores.cutPut(store, 0, 2, 31, 13);
        Check.due("record", store.block(9, 0, 1, false), 1);
        Check.due("shadow", store.block(9, 0, 1, true), 3);
        Check.due("flipped record", store.block(0, 0, 1, false), 3);
        Check.due("flipped shadow", store.block(0, 0, 1, true), NONE);
    }

    static void promise22_thereIsNoRecordOrNoShadow() {
        ShareStore store = withGaps();
        Check.due("no record", store.block(9, 3, 0, false), NONE);
        Check.due("no shadow", store.block(9, 0, 0, true), NONE);
        Check.due("neither", store.block(9, 5, 0, false), NONE);
        Check.due("neither", store.block(9, 5, 0, true), NONE);
    }

    static void promise22_thereIsNoSuchStripe() {
        ShareStore store = withGaps();
        Stores.put(store, 4, 4, 240);
        Check.due("the eighth", store.block(9, 4, 7, false), 14);
        Check.due("no second", store.block(9, 0, 1, false), NONE);
        Check.due("no fifth", store.block(9, 3, 4, true), NONE);
        for (int s : new int[] {-1, 8, 40, 240, Integer.MIN_VALUE, Integer.MAX_VALUE}) {
            Check.due("record's " + s, store.block(9, 4, s, false), NONE);
            Check.due("shadow's " + s, store.block(9, 3, s, true), NONE);
        }
        store.remove(4);
        Check.due("a removed one has none", store.block(9, 4, 0, false), NONE);
    }

    static void promise22_numbersAreNotAsTold() {
        ShareStore store = withGaps();
        for (int i = 0; i < NO_NODES.length; i++) {
            Check.due("no node", store.block(NO_NODES[i], 0, 0, false), BAD);
            Check.due("no node", store.block(NO_NODES[i], 0, 0, true), BAD);
            Check.due("no object", store.block(0, NO_OBJECTS[i], 0, false), BAD);
            Check.due("no object", store.block(0, NO_OBJECTS[i], 0, true), BAD);
        }
    }

    // ---- 23: byteOf

    private static void dueBytes(String call, ShareStore store, int node, int block, int number, int bytes, int s) {
        for (int i = 0; i < 8; i++) {
            Check.due(call + ": byte " + i, store.byteOf(node, block, i),
                Model.shareByte(node, Stores.contents(number, bytes), s, i));
        }
    }

    static void promise23_ofARecordsBlock() {
        ShareStore store = Stores.holding(0, 1, 31);
        dueBytes("first", store, 0, 0, 1, 31, 0);
        dueBytes("last", store, 11, 1, 1, 31, 1);
        store.fail(11);
        dueBytes("failed", store, 11, 1, 1, 31, 1);
    }

    static void promise23_ofAShadowsBlock() {
        ShareStore store = new ShareStore();
        Stores.cutPut(store, 1, 2, 31, 1);
        dueBytes("shadow", store, 0, 1, 2, 31, 1);
    }

    static void promise23_ofTheFirstAndTheLastBlock() {
        ShareStore store = Stores.crammed();
        dueBytes("block 0", store, 3, 0, 0, 240, 0);
        dueBytes("block 39", store, 3, 39, 4, 240, 7);
    }

    static void promise23_ofAFreeOneNone() {
        ShareStore store = new ShareStore();
        Check.due("new", store.byteOf(0, 0, 0), NONE);
        Check.due("new", store.byteOf(11, 39, 7), NONE);
        Stores.put(store, 0, 1, 31);
        Check.due("the next", store.byteOf(0, 2, 0), NONE);
        store.remove(0);
        Check.due("given up", store.byteOf(0, 1, 0), NONE);
    }

    static void promise23_numbersAreNotAsTold() {
        ShareStore store = Stores.crammed();
        for (int node : NO_NODES) {
            Check.due("no node", store.byteOf(node, 0, 0), BAD);
        }
        for (int no : new int[] {-1, 40, Integer.MIN_VALUE, Integer.MAX_VALUE}) {
            Check.due("block " + no, store.byteOf(0, no, 0), BAD);
        }
        for (int no : new int[] {-1, 8, Integer.MIN_VALUE, Integer.MAX_VALUE}) {
            Check.due("byte " + no, store.byteOf(0, 0, no), BAD);
            Check.due("byte " + no + " of a free one", new ShareStore().byteOf(0, 0, no), BAD);
        }
    }

    // ---- 24: symbol

    static void promise24_ofEachStripeForEachNode() {
        ShareStore store = Stores.holding(0, 3, 70);
        int[] contents = Stores.contents(3, 70);
        for (int helper = 0; helper < 12; helper++) {
            for (int node = 0; node < 12; node++) {
                for (int s = 0; s < 3; s++) {
                    Check.due("symbol(" + helper + ", " + node + ", 0, " + s + ")",
                        store.symbol(helper, node, 0, s), Model.symbolOf(helper, node, contents, s));
                }
            }
        }
    }

    static void promise24_ofItsOwnRecordWhateverVersionThatIs() {
        ShareStore store = Stores.holding(0, 3, 70);
        store.fail(4);
        Check.due("failed", store.symbol(4, 5, 0, 1), Model.symbolOf(4, 5, Stores.contents(3, 70), 1));
        Stores.put(store, 0, 1, 100);
        Check.due("old", store.symbol(4, 5, 0, 1), Model.symbolOf(4, 5, Stores.contents(3, 70), 1));
        Check.due("old, has no fourth", store.symbol(4, 5, 0, 3), NONE);
        Check.due("new", store.symbol(3, 5, 0, 3), Model.symbolOf(3, 5, Stores.contents(1, 100), 3));
    }

    static void promise24_forAFailedOrWipedNode() {
        ShareStore store = Stores.holding(0, 3, 70);
        store.fail(4);
        store.wipe(5);
        Check.due("failed", store.symbol(3, 4, 0, 1), Model.symbolOf(3, 4, Stores.contents(3, 70), 1));
        Check.due("wiped", store.symbol(3, 5, 0, 1), Model.symbolOf(3, 5, Stores.contents(3, 70), 1));
    }

    static void promise24_nothingIsSent() {
        ShareStore store = Stores.holding(0, 3, 70);
        store.symbol(3, 4, 0, 1);
        Check.due("symbols ever", store.count(3), 0);
        Check.due("sent(3)", store.sent(3), 0);
    }

    static void promise24_thereIsNoRecord() {
        ShareStore store = new ShareStore();
        Check.due("new", store.symbol(0, 1, 0, 0), NONE);
        Stores.cutPut(store, 1, 1, 9, 12);
        Check.due("a shadow is no record", store.symbol(3, 5, 1, 0), NONE);
        Stores.put(store, 0, 3, 70);
        store.wipe(3);
        Check.due("wiped", store.symbol(3, 5, 0, 0), NONE);
    }

    static void promise24_thereIsNoSuchStripe() {
        ShareStore store = Stores.holding(0, 3, 70);
        for (int s : new int[] {-1, 3, 8, Integer.MIN_VALUE, Integer.MAX_VALUE}) {
            Check.due("stripe " + s, store.symbol(4, 5, 0, s), NONE);
        }
        store.remove(0);
        Check.due("removed", store.symbol(4, 5, 0, 0), NONE);
    }

    static void promise24_numbersAreNotAsTold() {
        ShareStore store = Stores.holding(0, 3, 70);
        for (int i = 0; i < NO_NODES.length; i++) {
            Check.due("no helper", store.symbol(NO_NODES[i], 0, 0, 0), BAD);
            Check.due("no node", store.symbol(0, NO_NODES[i], 0, 0), BAD);
            Check.due("no object", store.symbol(0, 0, NO_OBJECTS[i], 0), BAD);
            Check.due("no node, no stripe", store.symbol(0, NO_NODES[i], 0, 99), BAD);
        }
    }

    // ---- 25: count

    static void promise25_liveNodes() {
        ShareStore store = new ShareStore();
        Check.due("new", store.count(0), 12);
        Stores.fail(store, 0, 11);
        Check.due("two failed", store.count(0), 10);
        store.wipe(0);
        Check.due("one wiped", store.count(0), 11);
        store.back(11);
        Check.due("one back", store.count(0), 12);
    }

    static void promise25_bytesOfTheTape() {
        ShareStore store = new ShareStore();
        Check.due("new", store.count(1), 0);
        Stores.feed(store, 1, 240);
        Check.due("most", store.count(1), 240);
        store.put(0);
        Check.due("put", store.count(1), 0);
    }

    static void promise25_messagesEver() {
        ShareStore store = Stores.holding(0, 1, 35);
        Check.due("put", store.count(2), 24);
        store.fail(10);
        store.remove(0);
        Check.due("remove by eleven", store.count(2), 24 + 22);
        Stores.cutPut(store, 1, 1, 5, 17);
        Check.due("cut", store.count(2), 24 + 22 + 17);
        store.settle(1);
        store.wipe(4);
        store.rebuild(4, ALL);
        store.get(1, ALL);
        Check.due("by no messages", store.count(2), 24 + 22 + 17);
        store.clear();
        Check.due("ever", store.count(2), 24 + 22 + 17);
    }

    static void promise25_symbolsEver() {
        ShareStore store = Stores.holding(0, 1, 35);
        Check.due("put", store.count(3), 0);
        store.wipe(4);
        store.rebuild(4, ALL);
        Check.due("rebuild", store.count(3), 16);
        store.wipe(0);
        store.rebuild(0, ALL);
        Check.due("another", store.count(3), 32);
        store.clear();
        Check.due("ever", store.count(3), 32);
    }

    static void promise25_openObjects() {
        ShareStore store = new ShareStore();
        for (int object = 0; object < 6; object++) {
            Check.due("open ones", store.count(4), object);
            Stores.cutPut(store, object, 1, 5, 12);
        }
        Check.due("all", store.count(4), 6);
        store.settle(0);
        Check.due("one settled", store.count(4), 5);
    }

    static void promise25_behindHowManyTheNextPutIsCut() {
        ShareStore store = new ShareStore();
        Check.due("none was told", store.count(5), NONE);
        store.cut(0);
        Check.due("none at all", store.count(5), 0);
        store.cut(23);
        Check.due("most", store.count(5), 23);
        store.put(4);
        Check.due("refused", store.count(5), 23);
        Stores.put(store, 4, 1, 5);
        Check.due("cut", store.count(5), NONE);
        store.cut(23);
        Stores.fail(store, 0);
        store.remove(0);
        Check.due("not cut", store.count(5), NONE);
    }

    static void promise25_whatIsNotAsTold() {
        for (int what : NO_OBJECTS) {
            Check.due("count(" + what + ")", new ShareStore().count(what), BAD);
        }
    }

    // ---- 26: digest

    static void promise26_ofANewStore() {
        Check.due("digest()", new ShareStore().digest(), -1418934429383056437L);
    }

    static void promise26_ofStoresWithRecordsShadowsAndBlocks() {
        for (int steps = 0; steps <= DIGEST_STEPS; steps++) {
            Check.due("behind " + steps + " steps", behind(steps).digest(), digestOfAnswers(steps));
        }
    }

    static void promise26_ofTheSameStoresByNumbersWorkedOutElsewhere() {
        for (int steps = 0; steps <= DIGEST_STEPS; steps++) {
            Check.due("behind " + steps + " steps", behind(steps).digest(), DIGESTS[steps]);
        }
    }

    private static ShareStore behind(int steps) {
        ShareStore store = new ShareStore();
        for (int step = 1; step <= steps; step++) {
            switch (step) {
                case 1:
                    Stores.put(store, 0, 1, 35);
                    break;
                case 2:
                    Stores.put(store, 5, 2, 3);
                    Stores.put(store, 0, 4, 65);
                    break;
                case 3:
                    Stores.cutPut(store, 1, 3, 31, 15);
                    break;
                case 4:
                    store.fail(2);
                    store.remove(4);
                    break;
                default:
                    store.wipe(4);
                    store.rebuild(4, ALL);
            }
        }
        return store;
    }

    /** What digest() must be, by the answers of other calls; each node is asked in a store of its own. */
    private static long digestOfAnswers(int steps) {
        long h = 11;
        for (int node = 0; node < 12; node++) {
            ShareStore store = behind(steps);
            h = 31 * h + (store.fail(node) == 1 ? 1 : 0);
            h = 31 * h + store.sent(node);
            h = 31 * h + store.free(node);
            for (int object = 0; object < 6; object++) {
                for (int what = 0; what < 6; what++) {
                    h = 31 * h + store.record(node, object, what);
                }
                int stripes = store.record(node, object, 2);
                for (int s = 0; s < stripes; s++) {
                    int block = store.block(node, object, s, false);
                    for (int i = 0; i < 8; i++) {
                        h = 31 * h + store.byteOf(node, block, i);
                    }
                }
            }
        }
        return h;
    }

    static void promise26_likeStoresHaveLikeDigests() {
        ShareStore store = Stores.crammed();
        Check.due("once", store.digest(), store.digest());
        Check.due("of like stores", store.digest(), Stores.crammed().digest());
        store.remove(4);
        Check.due("of unlike stores", store.digest() == Stores.crammed().digest() ? 1 : 0, 0);
    }

    // ---- 27: clear

    /** Objects 0 to 2 have a newest version, 1 without contents; 2 and 3 are open; a node failed, one was rebuilt. */
    private static ShareStore used() {
        ShareStore store = Stores.holding(0, 1, 35);
        store.get(0, ALL);
        store.remove(1);
        Stores.cutPut(store, 2, 1, 5, 17);
        Stores.cutPut(store, 3, 1, 5, 16);
        store.wipe(8);
        store.rebuild(8, ALL);
        store.fail(11);
        Stores.feed(store, 1, 4);
        store.cut(4);
        return store;
    }

    private static ShareStore cleared() {
        ShareStore store = used();
        store.clear();
        return store;
    }

    static void promise27_answersHowManyHadANewestVersion() {
        Check.due("none", new ShareStore().clear(), 0);
        Check.due("three", used().clear(), 3);
        Check.due("again", cleared().clear(), 0);
        ShareStore store = new ShareStore();
        for (int object = 0; object < 6; object++) {
            Stores.put(store, object, object, 5);
        }
        Check.due("six", store.clear(), 6);
    }

    static void promise27_ofFourLiveNodesNoneHas() {
        ShareStore store = Stores.holding(0, 1, 35);
        Stores.fail(store, 0, 1, 2, 3, 4, 5, 6, 7);
        Check.due("clear()", store.clear(), 0);
    }

    static void promise27_nodesAreAsAtFirst() {
        ShareStore store = cleared();
        Check.due("digest()", store.digest(), new ShareStore().digest());
        Check.due("live ones", store.count(0), 12);
        for (int node = 0; node < 12; node++) {
            Check.due("free(" + node + ")", store.free(node), 40);
            Check.due("back(" + node + ")", store.back(node), NO);
            for (int object = 0; object < 6; object++) {
                Stores.dueRecord("cleared", store, node, object, NONE, NONE, NONE, NONE, NONE, NONE);
            }
        }
    }

    static void promise27_sentIsNought() {
        ShareStore store = used();
        Check.due("before", store.sent(0), 2);
        store.clear();
        Stores.dueSent("cleared", store, 0, 0, 0, 0, 0, 0, 0, 0, 0, 0, 0, 0);
    }

    static void promise27_objectsAreAsAtFirst() {
        ShareStore store = cleared();
        for (int object = 0; object < 6; object++) {
            Check.due("version(" + object + ")", store.version(object), 0);
            Check.due("open(" + object + ")", store.open(object), 0);
            Check.due("settle(" + object + ")", store.settle(object), NO);
            Check.due("versions begin again", Stores.put(store, object, 2, 5), 1);
            Check.due("blocks begin again", store.block(7, object, 0, false), object);
        }
        Check.due("open ones", store.count(4), 0);
    }

    static void promise27_theTapeIsEmpty() {
        ShareStore store = cleared();
        Check.due("count(1)", store.count(1), 0);
        Check.due("put(0)", store.put(0), ShareStore.EMPTY);
        Check.due("feed", store.feed(1L, 8), 8);
    }

    static void promise27_noCutIsTold() {
        ShareStore store = cleared();
        Check.due("count(5)", store.count(5), NONE);
        Check.due("remove(0)", store.remove(0), 1);
    }

    static void promise27_whatWasGotStays() {
        Stores.dueGot("cleared", cleared(), 1, 35);
    }

    static void promise27_messagesEverStay() {
        ShareStore store = used();
        Check.due("before", store.count(2), 24 + 24 + 17 + 16);
        store.clear();
        Check.due("cleared", store.count(2), 81);
        store.remove(0);
        Check.due("and go on", store.count(2), 81 + 24);
    }

    static void promise27_symbolsEverStay() {
        ShareStore store = used();
        Check.due("before", store.count(3), 16);
        store.clear();
        Check.due("cleared", store.count(3), 16);
    }

    public static void main(String[] args) throws ReflectiveOperationException {
        Check.runPromises(QuestionsTest.class, 18, 27);
        Check.finish();
    }
}
