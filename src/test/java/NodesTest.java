/** Promises 14 to 27: nodes that fail, come back and are made anew, and what can be asked of them. */
public final class NodesTest {
    private static final int NONE = ShareStore.NONE, BAD = ShareStore.BAD, NO = ShareStore.NO, FEW = ShareStore.FEW;
    private static final int FULL = ShareStore.FULL;
    private static final int ALL = Stores.ALL;
    private static final int DIGEST_STEPS = 5;
    private static final int[] NO_NODES = {-1, 12, Integer.MIN_VALUE, Integer.MAX_VALUE};
    private static final int[] NO_OBJECTS = {-1, 6, Integer.MIN_VALUE, Integer.MAX_VALUE};

    private static void promise14() {
        ShareStore store = new ShareStore();
        for (int node : NO_NODES) {
            Check.due("14: fail(" + node + ")", store.fail(node), BAD);
        }
        Stores.put(store, 0, 1, 50);
        Check.due("14: fail", store.fail(11), 1);
        Check.due("14: again", store.fail(11), NO);
        Check.due("14: live ones", store.count(0), 11);
        Check.due("14: it keeps what it has", store.record(11, 0, 1), 50);
        Check.due("14: and its blocks", store.free(11), 38);
        Stores.put(store, 0, 2, 20);
        Check.due("14: it gets no messages", store.record(11, 0, 0), 1);
        Check.due("14: none were sent", store.count(2), 24 + 22);
        for (int node = 0; node < 11; node++) {
            Check.due("14: all may fail", store.fail(node), 1);
        }
        Check.due("14: none live", store.count(0), 0);
    }

    private static void promise15() {
        ShareStore store = new ShareStore();
        for (int node : NO_NODES) {
            Check.due("15: back(" + node + ")", store.back(node), BAD);
        }
        Check.due("15: live", store.back(0), NO);
        Stores.put(store, 0, 1, 50);
        Stores.cutPut(store, 0, 2, 70, 12);
        Stores.cutPut(store, 1, 3, 20, 5);
        Stores.cutPut(store, 2, 3, 20, 13);
        store.cut(12);
        store.remove(3);
        Stores.fail(store, 0, 4, 5);
        Check.due("15: blocks of the failed one", store.free(4), 40 - 2 - 3 - 1 - 1);
        Check.due("15: four shadows", store.back(4), 4);
        Check.due("15: again", store.back(4), NO);
        Check.due("15: their blocks are free", store.free(4), 38);
        Check.due("15: no shadow", store.record(4, 0, 3), NONE);
        Check.due("15: the record stays", store.record(4, 0, 0), 1);
        Check.due("15: three, the second was not sent", store.back(5), 3);
        Check.due("15: three, the third flipped", store.back(0), 3);
        Check.due("15: open all the same", store.open(0), 1);
        store.fail(0);
        Check.due("15: none", store.back(0), 0);
        Check.due("15: live ones", store.count(0), 12);
    }

    private static void promise16() {
        ShareStore store = new ShareStore();
        for (int node : NO_NODES) {
            Check.due("16: wipe(" + node + ")", store.wipe(node), BAD);
        }
        Check.due("16: nothing there", store.wipe(0), 0);
        Stores.put(store, 0, 1, 50);
        Stores.put(store, 5, 1, 240);
        Stores.cutPut(store, 0, 2, 70, 12);
        Check.due("16: records and shadows", store.wipe(3), 2 + 8 + 3);
        Check.due("16: no record", store.record(3, 5, 0), NONE);
        Check.due("16: no shadow", store.record(3, 0, 3), NONE);
        Check.due("16: all free", store.free(3), 40);
        Check.due("16: no byte", store.byteOf(3, 0, 0), NONE);
        store.fail(4);
        Check.due("16: a failed one", store.wipe(4), 13);
        Check.due("16: is live", store.back(4), NO);
        Check.due("16: others keep theirs", store.free(5), 27);
        store.rebuild(3, ALL);
        Check.due("16: of what was sent", store.sent(0), 8);
        Check.due("16: wiped", store.wipe(0), 13);
        Check.due("16: sent ever", store.sent(0), 8);
        Check.due("16: versions go on", store.settle(0), 0);
        Check.due("16: by the next number", Stores.put(store, 0, 1, 9), 3);
    }

    private static void promise17() {
        ShareStore store = new ShareStore();
        for (int node : NO_NODES) {
            Check.due("17: rebuild(" + node + ")", store.rebuild(node, ALL), BAD);
        }
        Check.due("17: nothing to do", store.rebuild(0, 0), 0);
        store.fail(3);
        Check.due("17: not live", store.rebuild(3, ALL), NO);
        for (int node = 0; node < 12; node++) {
            store = new ShareStore();
            Stores.put(store, 0, 1, 95);
            Stores.put(store, 1, 2, 31);
            Check.due("17: fresh already", store.rebuild(node, 0), 0);
            store.wipe(node);
            Check.due("17: symbols of " + node, store.rebuild(node, ALL), 8 * 4 + 8 * 2);
            dueSharesAsPut(store, node);
            Check.due("17: sent in all", sentInAll(store), 48);
            Check.due("17: symbols ever", store.count(3), 48);
        }
        promise17WhoSends();
        promise17Few();
        promise17Versions();
        promise17Full();
    }

    private static int sentInAll(ShareStore store) {
        int sum = 0;
        for (int i = 0; i < 12; i++) {
            sum += store.sent(i);
        }
        return sum;
    }

    private static void dueSharesAsPut(ShareStore store, int node) {
        int[] bytes = {95, 31};
        for (int object = 0; object < 2; object++) {
            Check.due("17: version", store.record(node, object, 0), 1);
            Check.due("17: bytes", store.record(node, object, 1), bytes[object]);
            int[] contents = Stores.contents(object + 1, bytes[object]);
            for (int s = 0; s < (bytes[object] + 29) / 30; s++) {
                int block = store.block(node, object, s, false);
                Check.due("17: least free", block, object * 4 + s);
                for (int c = 0; c < 8; c++) {
                    Check.due("17: the share is what it was", store.byteOf(node, block, c),
                        Model.shareByte(node, contents, s, c));
                }
            }
        }
    }

    private static void promise17WhoSends() {
        ShareStore store = new ShareStore();
        Stores.put(store, 0, 1, 61);
        Stores.put(store, 2, 2, 10);
        store.wipe(0);
        Check.due("17: first", store.rebuild(0, ALL), 8 * 3 + 8);
        // Object 0 asks 1 .. 8; object 2 then those that sent nothing, 9 .. 11, and 1 .. 5.
        int[] due = {0, 4, 4, 4, 4, 4, 3, 3, 3, 1, 1, 1};
        dueSent("17: first", store, due);
        store.wipe(4);
        Check.due("17: by those told", store.rebuild(4, 0x1FF | -4096), 32);
        // Told 0 .. 8 without 4: just eight.
        dueSent("17: by those told", store, new int[] {4, 8, 8, 8, 4, 8, 7, 7, 7, 1, 1, 1});
        store.wipe(11);
        Check.due("17: third", store.rebuild(11, ALL), 32);
        // Object 0: 9, 10 (1 each), 0, 4 (4 each), 6, 7, 8 (7 each), 1 (8); object 2, of what that makes:
        // 9, 10 (4 each), 0, 4 (7 each), 2, 3, 5 (8 each), 6 (the least number of those with 10).
        dueSent("17: third", store, new int[] {8, 11, 9, 9, 8, 9, 11, 10, 10, 5, 5, 1});
    }

    private static void dueSent(String call, ShareStore store, int[] due) {
        for (int i = 0; i < 12; i++) {
            Check.due(call + ": sent(" + i + ")", store.sent(i), due[i]);
        }
    }

    private static void promise17Few() {
        ShareStore store = new ShareStore();
        Stores.put(store, 0, 1, 61);
        Stores.put(store, 3, 1, 5);
        store.wipe(0);
        long before = Stores.state(store);
        Check.due("17: seven", store.rebuild(0, 0xFE), FEW);
        Check.due("17: the node itself is none", store.rebuild(0, 0xFF), FEW);
        Check.due("17: refused, changing nothing", Stores.state(store), before);
        Check.due("17: eight", store.rebuild(0, 0x1FE), 32);
        store.wipe(0);
        store.wipe(1);
        Check.due("17: one of them is not fresh", store.rebuild(0, 0x1FE), FEW);
        Stores.fail(store, 9, 10);
        Check.due("17: just eight are", store.rebuild(0, ALL), 32);
        store.fail(11);
        Check.due("17: with the one made anew just eight", store.rebuild(1, ALL), 32);
        store.wipe(2);
        store.wipe(3);
        Check.due("17: seven are", store.rebuild(2, ALL), FEW);
        store.fail(2);
        Check.due("17: not live comes first", store.rebuild(2, ALL), NO);
        store.back(2);
        store.remove(0);
        Check.due("17: few for the other object", store.rebuild(2, ALL), FEW);
        store.remove(3);
        Check.due("17: fresh by messages", store.rebuild(2, 0), 0);
        for (int object = 0; object < 6; object += 5) {
            store = new ShareStore();
            Stores.put(store, object, 1, 61);
            store.wipe(4);
            Check.due("17: few for object " + object, store.rebuild(4, 0xFF), FEW);
            Check.due("17: enough for object " + object, store.rebuild(4, 0xFF0 | 1), 24);
        }
    }

    private static void promise17Versions() {
        ShareStore store = new ShareStore();
        Stores.put(store, 0, 1, 61);
        Stores.put(store, 1, 2, 200);
        store.fail(6);
        Stores.put(store, 0, 3, 5);
        store.remove(1);
        Stores.put(store, 2, 4, 35);
        Stores.cutPut(store, 3, 5, 35, 20);
        store.back(6);
        Check.due("17: not the open one", store.rebuild(6, ALL), 8 + 16);
        Check.due("17: newest", store.record(6, 0, 0), 2);
        Check.due("17: bytes", store.record(6, 0, 1), 5);
        Check.due("17: least free behind what was given up", store.block(6, 0, 0, false), 0);
        Check.due("17: removed", store.record(6, 1, 0), 2);
        Check.due("17: without bytes", store.record(6, 1, 1), 0);
        Check.due("17: new", store.block(6, 2, 1, false), 2);
        Check.due("17: open", store.record(6, 3, 0), NONE);
        Check.due("17: free", store.free(6), 37);
        // Its blocks held other bytes before, which must be gone.
        for (int i = 0; i < 8; i++) {
            Check.due("17: byte " + i + " of object 0", store.byteOf(6, 0, i),
                Model.shareByte(6, Stores.contents(3, 5), 0, i));
            Check.due("17: byte " + i + " of object 2", store.byteOf(6, 2, i),
                Model.shareByte(6, Stores.contents(4, 35), 1, i));
        }
        promise17NewerThanTheNewest();
        promise17NothingToSend();
    }

    private static void promise17NothingToSend() {
        ShareStore store = new ShareStore();
        Stores.put(store, 0, 1, 61);
        store.fail(6);
        store.remove(0);
        store.back(6);
        Check.due("17: a removed one needs no helpers", store.rebuild(6, 0), 0);
        Check.due("17: removed", store.record(6, 0, 0), 2);
        Check.due("17: fresh", store.fresh(6, 0), 1);
        Check.due("17: given up", store.free(6), 40);
        store = new ShareStore();
        Stores.put(store, 0, 1, 61);
        for (int node = 4; node < 12; node++) {
            store.wipe(node);
        }
        Check.due("17: without a newest version", store.rebuild(0, ALL), 0);
        Check.due("17: the record stays", store.record(0, 0, 0), 1);
        Check.due("17: with its blocks", store.free(0), 37);
    }

    /** A node alone with a version that was taken while few were live goes back to the one that is newest. */
    private static void promise17NewerThanTheNewest() {
        ShareStore store = new ShareStore();
        Stores.put(store, 0, 1, 61);
        Stores.cutPut(store, 0, 2, 100, 13);
        Stores.fail(store, 3, 4, 5, 6, 7, 8, 9, 10, 11);
        Check.due("17: taken by three", store.settle(0), 1);
        Stores.back(store, 3, 4, 5, 6, 7, 8, 9, 10, 11);
        Check.due("17: nine have the old one", store.version(0), 1);
        Check.due("17: three the new one", store.record(2, 0, 0), 2);
        Check.due("17: it goes back", store.rebuild(2, ALL), 8 * 3);
        Check.due("17: to the old one", store.record(2, 0, 0), 1);
        Check.due("17: with its bytes", store.record(2, 0, 1), 61);
        Check.due("17: the next version", store.remove(0), 3);
    }

    private static void promise17Full() {
        ShareStore store = new ShareStore();
        Stores.put(store, 5, 0, 60);
        store.fail(7);
        store.remove(5);
        for (int object = 0; object < 5; object++) {
            Stores.put(store, object, object, object < 4 ? 1 : 210);
        }
        store.back(7);
        Check.due("17: room enough", store.rebuild(7, ALL), 8 * 11);
        store = new ShareStore();
        Stores.put(store, 5, 0, 1);
        store.fail(7);
        store.remove(5);
        for (int object = 0; object < 4; object++) {
            Stores.put(store, object, object, 240);
        }
        Check.due("17: the others are full", Stores.put(store, 4, 4, 211), 1);
        Check.due("17: really", store.free(0), 0);
        store.back(7);
        long before = Stores.state(store);
        Check.due("17: 41 before object 5 is given up", store.rebuild(7, ALL), FULL);
        Check.due("17: refused, changing nothing", Stores.state(store), before);
        Check.due("17: few comes first", store.rebuild(7, 127), FEW);
        store.wipe(7);
        Check.due("17: just 40", store.rebuild(7, ALL), 8 * 40);
        Check.due("17: none free", store.free(7), 0);
        promise17RoomByGivingUp();
    }

    private static void promise17RoomByGivingUp() {
        ShareStore store = new ShareStore();
        for (int object = 0; object < 5; object++) {
            Stores.put(store, object, object, 240);
        }
        store.fail(7);
        store.remove(2);
        Stores.put(store, 2, 9, 220);
        store.back(7);
        Check.due("17: none free before", store.free(7), 0);
        Check.due("17: the old record makes room", store.rebuild(7, ALL), 64);
        Check.due("17: none free behind it", store.free(7), 0);
        Check.due("17: bytes", store.record(7, 2, 1), 220);
    }

    private static void promise18() {
        ShareStore store = new ShareStore();
        for (int i = 0; i < 4; i++) {
            Check.due("18: no node", store.fresh(NO_NODES[i], 0), BAD);
            Check.due("18: no object", store.fresh(0, NO_OBJECTS[i]), BAD);
        }
        Check.due("18: no version", store.fresh(0, 0), 0);
        Stores.put(store, 1, 1, 5);
        Check.due("18: put", store.fresh(11, 1), 1);
        Check.due("18: another object", store.fresh(11, 0), 0);
        store.fail(11);
        Check.due("18: not live", store.fresh(11, 1), 0);
        store.remove(1);
        store.back(11);
        Check.due("18: an old version", store.fresh(11, 1), 0);
        Check.due("18: a removed one", store.fresh(10, 1), 1);
        store.wipe(10);
        Check.due("18: nothing", store.fresh(10, 1), 0);
        Stores.cutPut(store, 2, 1, 5, 16);
        Check.due("18: four flips make no version", store.fresh(0, 2), 0);
        Stores.cutPut(store, 3, 1, 5, 17);
        Check.due("18: five do", store.fresh(4, 3), 1);
        Check.due("18: a shadow is no record", store.fresh(5, 3), 0);
    }

    private static void promise19() {
        ShareStore store = new ShareStore();
        for (int node : NO_NODES) {
            Check.due("19: sent(" + node + ")", store.sent(node), BAD);
        }
        Stores.put(store, 0, 1, 91);
        Check.due("19: a put sends none", store.sent(3), 0);
        store.symbol(3, 4, 0, 0);
        Check.due("19: nor does symbol()", store.sent(3), 0);
        store.wipe(0);
        store.rebuild(0, 0x1FE);
        Check.due("19: four stripes", store.sent(3), 4);
        Check.due("19: not told", store.sent(9), 0);
        Check.due("19: the lost one", store.sent(0), 0);
        store.wipe(0);
        store.rebuild(0, 0x1FE);
        Check.due("19: ever", store.sent(3), 8);
        store.fail(3);
        Check.due("19: failed", store.sent(3), 8);
        store.wipe(3);
        Check.due("19: wiped", store.sent(3), 8);
    }

    private static void promise20() {
        ShareStore store = new ShareStore();
        for (int node : NO_NODES) {
            Check.due("20: free(" + node + ")", store.free(node), BAD);
        }
        Stores.put(store, 0, 1, 240);
        Check.due("20: eight stripes", store.free(0), 32);
        Stores.cutPut(store, 0, 1, 31, 12);
        Check.due("20: and two of the shadow", store.free(0), 30);
        store.fail(0);
        Check.due("20: failed", store.free(0), 30);
        store.settle(0);
        Check.due("20: not taken", store.free(1), 32);
        Check.due("20: still there", store.free(0), 30);
        store.back(0);
        Check.due("20: back", store.free(0), 32);
        store.remove(0);
        Check.due("20: removed", store.free(0), 40);
    }

    private static void promise21() {
        ShareStore store = new ShareStore();
        for (int i = 0; i < 4; i++) {
            Check.due("21: no node", store.record(NO_NODES[i], 0, 0), BAD);
            Check.due("21: no object", store.record(0, NO_OBJECTS[i], 0), BAD);
            Check.due("21: no what", store.record(0, 0, NO_OBJECTS[i]), BAD);
        }
        Stores.put(store, 2, 1, 35);
        Stores.put(store, 2, 1, 5);
        Stores.cutPut(store, 2, 1, 91, 13);
        dueRecord("21: flipped", store, 0, new int[] {3, 91, 4, NONE, NONE, NONE});
        dueRecord("21: with a shadow", store, 1, new int[] {2, 5, 1, 3, 91, 4});
        store.settle(2);
        store.cut(12);
        store.remove(2);
        dueRecord("21: removing", store, 1, new int[] {3, 91, 4, 4, 0, 0});
        store.fail(1);
        dueRecord("21: failed", store, 1, new int[] {3, 91, 4, 4, 0, 0});
        store.wipe(1);
        dueRecord("21: wiped", store, 1, new int[] {NONE, NONE, NONE, NONE, NONE, NONE});
    }

    private static void dueRecord(String call, ShareStore store, int node, int[] due) {
        for (int what = 0; what < 6; what++) {
            Check.due(call + " " + what, store.record(node, 2, what), due[what]);
        }
    }

    private static void promise22() {
        ShareStore store = new ShareStore();
        for (int i = 0; i < 4; i++) {
            Check.due("22: no node", store.block(NO_NODES[i], 0, 0, false), BAD);
            Check.due("22: no object", store.block(0, NO_OBJECTS[i], 0, true), BAD);
        }
        Check.due("22: nothing", store.block(0, 0, 0, false), NONE);
        Stores.put(store, 0, 1, 31);
        Stores.put(store, 1, 1, 31);
        Stores.put(store, 0, 1, 1);
        // Blocks 0 and 1 are free, 2 and 3 object 1's, 4 object 0's.
        Stores.cutPut(store, 3, 1, 91, 12);
        int[] due = {0, 1, 5, 6, NONE, NONE, NONE, NONE, NONE};
        for (int s = 0; s < due.length; s++) {
            Check.due("22: shadow's " + s, store.block(9, 3, s, true), due[s]);
            Check.due("22: no record's " + s, store.block(9, 3, s, false), NONE);
        }
        Check.due("22: record's 0", store.block(9, 0, 0, false), 4);
        Check.due("22: record's 1", store.block(9, 0, 1, false), NONE);
        Check.due("22: no shadow", store.block(9, 0, 0, true), NONE);
        for (int s : new int[] {-1, 8, 240, Integer.MIN_VALUE, Integer.MAX_VALUE}) {
            Check.due("22: stripe " + s, store.block(9, 3, s, true), NONE);
            Check.due("22: stripe " + s, store.block(9, 1, s, false), NONE);
        }
    }

    private static void promise23() {
        ShareStore store = new ShareStore();
        for (int i = 0; i < 4; i++) {
            Check.due("23: no node", store.byteOf(NO_NODES[i], 0, 0), BAD);
        }
        for (int no : new int[] {-1, 40, Integer.MIN_VALUE, Integer.MAX_VALUE}) {
            Check.due("23: no block", store.byteOf(0, no, 0), BAD);
            Check.due("23: no byte", store.byteOf(0, 0, no == 40 ? 8 : no), BAD);
        }
        Check.due("23: free", store.byteOf(11, 39, 7), NONE);
        Stores.put(store, 0, 1, 31);
        for (int i = 0; i < 8; i++) {
            Check.due("23: byte " + i, store.byteOf(11, 1, i), Model.shareByte(11, Stores.contents(1, 31), 1, i));
        }
        Check.due("23: the next is free", store.byteOf(11, 2, 0), NONE);
        store.fail(11);
        Check.due("23: failed", store.byteOf(11, 1, 7), Model.shareByte(11, Stores.contents(1, 31), 1, 7));
        store.remove(0);
        Check.due("23: given up", store.byteOf(10, 1, 0), NONE);
        Stores.cutPut(store, 1, 2, 1, 1);
        Check.due("23: a shadow's", store.byteOf(0, 0, 3), Model.shareByte(0, Stores.contents(2, 1), 0, 3));
    }

    private static void promise24() {
        ShareStore store = new ShareStore();
        for (int i = 0; i < 4; i++) {
            Check.due("24: no helper", store.symbol(NO_NODES[i], 0, 0, 0), BAD);
            Check.due("24: no node", store.symbol(0, NO_NODES[i], 0, 0), BAD);
            Check.due("24: no object", store.symbol(0, 0, NO_OBJECTS[i], 0), BAD);
        }
        Check.due("24: nothing", store.symbol(0, 1, 0, 0), NONE);
        Stores.put(store, 0, 3, 70);
        int[] contents = Stores.contents(3, 70);
        for (int helper = 0; helper < 12; helper++) {
            for (int node = 0; node < 12; node++) {
                for (int s = 0; s < 3; s++) {
                    Check.due("24: symbol(" + helper + ", " + node + ", 0, " + s + ")",
                        store.symbol(helper, node, 0, s), Model.symbolOf(helper, node, contents, s));
                }
            }
        }
        store = new ShareStore();
        Stores.put(store, 0, 3, 70);
        for (int s : new int[] {-1, 3, 8, Integer.MIN_VALUE, Integer.MAX_VALUE}) {
            Check.due("24: stripe " + s, store.symbol(4, 5, 0, s), NONE);
        }
        store.fail(4);
        Check.due("24: of what a failed one has", store.symbol(4, 5, 0, 1), Model.symbolOf(4, 5, contents, 1));
        Stores.cutPut(store, 1, 1, 9, 12);
        Check.due("24: a shadow is no record", store.symbol(3, 5, 1, 0), NONE);
        store.remove(0);
        Check.due("24: removed", store.symbol(3, 5, 0, 0), NONE);
        Check.due("24: an old version", store.symbol(4, 5, 0, 2), Model.symbolOf(4, 5, contents, 2));
    }

    private static void promise25() {
        ShareStore store = new ShareStore();
        for (int what : NO_OBJECTS) {
            Check.due("25: count(" + what + ")", store.count(what), BAD);
        }
        Stores.put(store, 0, 1, 35);
        store.fail(10);
        Stores.cutPut(store, 1, 1, 5, 17);
        Stores.cutPut(store, 2, 1, 5, 0);
        Stores.feed(store, 1, 4);
        store.wipe(3);
        store.rebuild(3, ALL);
        store.cut(9);
        int[] due = {11, 4, 24 + 17, 16, 2, 9};
        for (int what = 0; what < 6; what++) {
            Check.due("25: count(" + what + ")", store.count(what), due[what]);
        }
        store.settle(1);
        Check.due("25: settled", store.count(4), 1);
        store.remove(0);
        Check.due("25: spent on a remove", store.count(5), NONE);
        Check.due("25: the first object is open, too", store.count(4), 2);
        Check.due("25: messages of the cut one", store.count(2), 41 + 9);
        store.settle(0);
        store.cut(9);
        Check.due("25: settled by no messages", store.count(2), 41 + 9);
        store.put(4);
        Check.due("25: spent", store.count(5), NONE);
    }

    private static void promise26() {
        Check.due("26: new", new ShareStore().digest(), -1418934429383056437L);
        for (int steps = 0; steps <= DIGEST_STEPS; steps++) {
            Check.due("26: behind " + steps + " steps", behind(steps).digest(), digestOfAnswers(steps));
        }
    }

    private static ShareStore behind(int steps) {
        ShareStore store = new ShareStore();
        for (int step = 1; step <= steps; step++) {
            switch (step) {
                case 1:
                    Stores.put(store, 0, 1, 35);
                    break;
                case 2:
                    Stores.put(store, 5, 2, 3);
                    Stores.put(store, 0, 4, 65);
                    break;
                case 3:
                    Stores.cutPut(store, 1, 3, 31, 15);
                    break;
                case 4:
                    store.fail(2);
                    store.remove(4);
                    break;
                default:
                    store.wipe(4);
                    store.rebuild(4, ALL);
            }
        }
        return store;
    }

    /** What digest() must be, by the answers of other calls; each node is asked in a store of its own, for few calls. */
    private static long digestOfAnswers(int steps) {
        long h = 11;
        for (int node = 0; node < 12; node++) {
            ShareStore store = behind(steps);
            h = 31 * h + (store.fail(node) == 1 ? 1 : 0);
            h = 31 * h + store.sent(node);
            h = 31 * h + store.free(node);
            for (int object = 0; object < 6; object++) {
                for (int what = 0; what < 6; what++) {
                    h = 31 * h + store.record(node, object, what);
                }
                int stripes = store.record(node, object, 2);
                for (int s = 0; s < stripes; s++) {
                    int block = store.block(node, object, s, false);
                    for (int i = 0; i < 8; i++) {
                        h = 31 * h + store.byteOf(node, block, i);
                    }
                }
            }
        }
        return h;
    }

    private static void promise27() {
        ShareStore store = new ShareStore();
        long first = store.digest();
        Check.due("27: of nothing", store.clear(), 0);
        Stores.put(store, 0, 1, 35);
        store.get(0, ALL);
        store.remove(1);
        Stores.cutPut(store, 2, 1, 5, 17);
        Stores.cutPut(store, 3, 1, 5, 16);
        store.wipe(8);
        store.rebuild(8, ALL);
        store.fail(11);
        Stores.feed(store, 1, 4);
        store.cut(4);
        int messages = store.count(2);
        int symbols = store.count(3);
        Check.due("27: three had a version", store.clear(), 3);
        Check.due("27: as at first", store.digest(), first);
        Check.due("27: sent, too", store.sent(0), 0);
        int[] due = {12, 0, messages, symbols, 0, NONE};
        for (int what = 0; what < 6; what++) {
            Check.due("27: count(" + what + ")", store.count(what), due[what]);
        }
        Check.due("27: but what was got", store.got(34), Stores.byteOf(1, 34));
        Check.due("27: not open", store.settle(2), NO);
        Check.due("27: live", store.back(11), NO);
        Check.due("27: versions from 1", Stores.put(store, 0, 2, 5), 1);
        Check.due("27: blocks from 0", store.block(0, 0, 0, false), 0);
        Check.due("27: messages ever", store.count(2), messages + 24);
        Check.due("27: one has", store.clear(), 1);
        Check.due("27: again", store.clear(), 0);
    }

    public static void main(String[] args) {
        promise14();
        promise15();
        promise16();
        promise17();
        promise18();
        promise19();
        promise20();
        promise21();
        promise22();
        promise23();
        promise24();
        promise25();
        promise26();
        promise27();
        Check.finish();
    }
}
