/** Promises 5 to 13: the tape, puts and removes, settling, getting. */
public final class ContentsTest {
    private static final int NONE = ShareStore.NONE, BAD = ShareStore.BAD, NO = ShareStore.NO, FEW = ShareStore.FEW;
    private static final int FULL = ShareStore.FULL, EMPTY = ShareStore.EMPTY;
    private static final int[] NO_OBJECTS = {-1, 6, Integer.MIN_VALUE, Integer.MAX_VALUE};

    private static void promise5() {
        ShareStore store = new ShareStore();
        Check.due("5: feed(w, 8)", store.feed(0x0102030405060708L, 8), 8);
        Check.due("5: feed(w, 1)", store.feed(0xAABBL, 1), 9);
        Check.due("5: feed(-2, 3)", store.feed(-2L, 3), 12);
        Check.due("5: put", store.put(0), 1);
        Check.due("5: get", store.get(0, Stores.ALL), 12);
        int[] due = {1, 2, 3, 4, 5, 6, 7, 8, 0xBB, 0xFF, 0xFF, 0xFE};
        for (int i = 0; i < due.length; i++) {
            Check.due("5: got(" + i + ")", store.got(i), due[i]);
        }
        for (int n : new int[] {0, -1, 9, Integer.MIN_VALUE, Integer.MAX_VALUE}) {
            Check.due("5: feed(1, " + n + ")", store.feed(1L, n), BAD);
        }
        Check.due("5: refused, nothing came", store.count(1), 0);
        for (int i = 1; i <= 29; i++) {
            Check.due("5: feed to " + 8 * i, store.feed(i, 8), 8 * i);
        }
        Check.due("5: feed to 239", store.feed(1L, 7), 239);
        Check.due("5: above 240 by one", store.feed(1L, 2), FULL);
        Check.due("5: above 240, n not as told", store.feed(1L, 9), BAD);
        Check.due("5: nothing came", store.count(1), 239);
        Check.due("5: 240 is not above 240", store.feed(1L, 1), 240);
        Check.due("5: full", store.feed(1L, 1), FULL);
    }

    private static void promise6() {
        for (int n : new int[] {0, 1, 11, 12, 13, 23}) {
            ShareStore store = new ShareStore();
            Check.due("6: cut(" + n + ")", store.cut(n), 1);
            Check.due("6: count(5)", store.count(5), n);
            Check.due("6: remove behind " + n, store.remove(0), 0);
            Check.due("6: messages", store.count(2), n);
            Check.due("6: no later one is cut", store.remove(1), 1);
        }
        ShareStore store = new ShareStore();
        for (int n : new int[] {-1, 24, Integer.MIN_VALUE, Integer.MAX_VALUE}) {
            Check.due("6: cut(" + n + ")", store.cut(n), BAD);
        }
        Check.due("6: none was told", store.count(5), NONE);
        store.cut(3);
        Check.due("6: a refused cut", store.cut(24), BAD);
        Check.due("6: changes nothing", store.count(5), 3);
        store.cut(7);
        Check.due("6: a refused put", store.put(0), EMPTY);
        Check.due("6: a refused remove", store.remove(6), BAD);
        Check.due("6: leave it", store.count(5), 7);
        Check.due("6: the put is cut", Stores.put(store, 0, 1, 3), 0);
        Check.due("6: behind the last told", store.count(2), 7);
        promise6NoMoreMessages();
    }

    private static void promise6NoMoreMessages() {
        ShareStore store = new ShareStore();
        Stores.fail(store, 0, 5, 11);
        store.cut(18);
        Check.due("6: it has no more than n", store.remove(0), 1);
        Check.due("6: all messages go", store.count(2), 18);
        Check.due("6: spent all the same", store.count(5), NONE);
        Check.due("6: no later one is cut", store.remove(0), 2);
        store.cut(17);
        Check.due("6: one less cuts it", store.remove(0), 0);
        Check.due("6: behind 17", store.count(2), 18 + 18 + 17);
    }

    private static void promise7() {
        ShareStore store = new ShareStore();
        Check.due("7: put", Stores.put(store, 2, 1, 61), 1);
        Check.due("7: the tape is empty then", store.count(1), 0);
        Check.due("7: messages", store.count(2), 24);
        for (int node = 0; node < 12; node++) {
            Check.due("7: version of " + node, store.record(node, 2, 0), 1);
            Check.due("7: bytes of " + node, store.record(node, 2, 1), 61);
            Check.due("7: stripes of " + node, store.record(node, 2, 2), 3);
            Check.due("7: no shadow at " + node, store.record(node, 2, 3), NONE);
            dueShares(store, node, 2, 1, 61);
        }
        promise7NextVersions();
        promise7Cut();
        promise7Refused();
        promise7Full();
    }

    private static void promise7NextVersions() {
        ShareStore store = new ShareStore();
        Stores.put(store, 2, 1, 61);
        Check.due("7: the next version", Stores.put(store, 2, 2, 30), 2);
        Check.due("7: behind the blocks of the old one", store.block(4, 2, 0, false), 3);
        Check.due("7: which was given up", store.free(4), 39);
        Check.due("7: another object", Stores.put(store, 3, 3, 60), 1);
        Check.due("7: least free", store.block(4, 3, 0, false), 0);
        Check.due("7: next free", store.block(4, 3, 1, false), 1);
        dueShares(store, 4, 2, 2, 30);
        Check.due("7: the last one filled up", Stores.put(store, 3, 4, 240), 2);
        dueShares(store, 11, 3, 4, 240);
    }

    private static void dueShares(ShareStore store, int node, int object, int number, int bytes) {
        int[] contents = Stores.contents(number, bytes);
        for (int s = 0; s < (bytes + 29) / 30; s++) {
            int block = store.block(node, object, s, false);
            for (int c = 0; c < 8; c++) {
                Check.due("7: byte " + c + " of the share of stripe " + s + " at " + node,
                    store.byteOf(node, block, c),
                    Model.shareByte(node, contents, s, c));
            }
        }
    }

    private static void promise7Cut() {
        ShareStore store = new ShareStore();
        Stores.fail(store, 1);
        Check.due("7: cut put", Stores.cutPut(store, 0, 1, 40, 13), 0);
        Check.due("7: the tape is empty all the same", store.count(1), 0);
        for (int node = 0; node < 12; node++) {
            boolean flipped = node == 0 || node == 2;
            Check.due("7: record of " + node, store.record(node, 0, 0), flipped ? 1 : NONE);
            Check.due("7: shadow of " + node, store.record(node, 0, 3), flipped || node == 1 ? NONE : 1);
        }
        store = new ShareStore();
        Check.due("7: cut among shadows", Stores.cutPut(store, 0, 1, 40, 4), 0);
        for (int node = 0; node < 12; node++) {
            Check.due("7: shadow bytes of " + node, store.record(node, 0, 4), node < 4 ? 40 : NONE);
            Check.due("7: no record of " + node, store.record(node, 0, 0), NONE);
        }
        Check.due("7: a shadow's share", store.byteOf(3, store.block(3, 0, 1, true), 2),
            Model.shareByte(3, Stores.contents(1, 40), 1, 2));
    }

    private static void promise7Refused() {
        ShareStore store = new ShareStore();
        for (int object : NO_OBJECTS) {
            Check.due("7: put(" + object + ")", store.put(object), BAD);
        }
        Check.due("7: an empty tape", store.put(0), EMPTY);
        Stores.cutPut(store, 1, 1, 10, 2);
        Stores.fail(store, 9, 10, 11);
        Check.due("7: nine are enough", Stores.put(store, 0, 1, 10), 1);
        store.fail(8);
        Check.due("7: eight are few", store.put(0), FEW);
        Check.due("7: open comes first", store.put(1), NO);
        Stores.feed(store, 1, 10);
        long before = Stores.state(store);
        Check.due("7: few with a tape", store.put(0), FEW);
        Check.due("7: open with a tape", store.put(1), NO);
        Check.due("7: refused, changing nothing", Stores.state(store), before);
    }

    private static void promise7Full() {
        ShareStore store = new ShareStore();
        for (int object = 0; object < 4; object++) {
            Stores.put(store, object, object, 240);
        }
        Check.due("7: the last blocks", Stores.put(store, 4, 4, 240), 1);
        Check.due("7: none is free", store.free(0), 0);
        Check.due("7: nothing to put, so no block is too few", store.put(5), EMPTY);
        Stores.feed(store, 5, 1);
        long before = Stores.state(store);
        Check.due("7: full", store.put(5), FULL);
        Check.due("7: a new version stands beside the old one", store.put(0), FULL);
        Check.due("7: refused, changing nothing", Stores.state(store), before);
        Stores.fail(store, 1, 2, 3);
        Check.due("7: few is not asked of nine", store.put(5), FULL);
        Check.due("7: a removed one has no stripes", store.remove(4), 2);
        Check.due("7: blocks given up serve", store.put(5), 1);
        Stores.feed(store, 5, 211);
        store.back(3);
        Check.due("7: one live node without room", store.put(4), FULL);
        store.fail(3);
        Stores.feed(store, 5, 1);
        Check.due("7: eight for seven", store.put(4), FULL);
        for (int last = 0; last < 12; last += 11) {
            store = new ShareStore();
            for (int object = 0; object < 5; object++) {
                Stores.put(store, object, object, 240);
            }
            for (int node = 0; node < 12; node++) {
                if (node != last) {
                    store.wipe(node);
                }
            }
            Check.due("7: node " + last + " alone without room", Stores.put(store, 5, 5, 1), FULL);
            store.fail(last);
            Check.due("7: which does not count when failed", store.put(5), 1);
        }
    }

    private static void promise8() {
        ShareStore store = new ShareStore();
        Check.due("8: of nothing", store.remove(0), 1);
        Check.due("8: version", store.version(0), 1);
        Check.due("8: no bytes", store.record(3, 0, 1), 0);
        Check.due("8: no stripes", store.record(3, 0, 2), 0);
        Stores.put(store, 0, 1, 100);
        Stores.feed(store, 1, 7);
        Check.due("8: of contents", store.remove(0), 3);
        Check.due("8: the tape stays", store.count(1), 7);
        Check.due("8: messages", store.count(2), 72);
        Check.due("8: the blocks are given up", store.free(11), 40);
        Check.due("8: nothing to get", store.get(0, Stores.ALL), EMPTY);
        store.cut(5);
        Check.due("8: cut", store.remove(0), 0);
        Check.due("8: open", store.open(0), 1);
        Check.due("8: a shadow without bytes", store.record(4, 0, 4), 0);
        Check.due("8: not there yet", store.record(5, 0, 3), NONE);
        Check.due("8: no block", store.block(4, 0, 0, true), NONE);
        for (int object : NO_OBJECTS) {
            Check.due("8: remove(" + object + ")", store.remove(object), BAD);
        }
        long before = Stores.state(store);
        Check.due("8: it is open", store.remove(0), NO);
        Check.due("8: changing nothing", Stores.state(store), before);
        Stores.fail(store, 0, 1, 2);
        Check.due("8: nine are enough", store.remove(1), 1);
        store.fail(3);
        Check.due("8: eight are few", store.remove(1), FEW);
        Check.due("8: open comes first", store.remove(0), NO);
    }

    private static void promise9() {
        ShareStore store = new ShareStore();
        for (int object : NO_OBJECTS) {
            Check.due("9: settle(" + object + ")", store.settle(object), BAD);
        }
        Check.due("9: it is not open", store.settle(0), NO);
        Stores.put(store, 0, 1, 30);
        Stores.cutPut(store, 0, 2, 30, 12);
        Check.due("9: shadows alone", store.settle(0), 0);
        Check.due("9: the old version stays", store.version(0), 1);
        for (int node = 0; node < 12; node++) {
            Check.due("9: the shadow of " + node + " is given up", store.record(node, 0, 3), NONE);
            Check.due("9: and its block", store.free(node), 39);
        }
        Check.due("9: settled", store.settle(0), NO);
        Stores.cutPut(store, 0, 3, 60, 13);
        Check.due("9: one flip is enough", store.settle(0), 1);
        Check.due("9: by no messages", store.count(2), 24 + 12 + 13);
        Check.due("9: the number of the one not taken is gone", store.version(0), 3);
        Check.due("9: the old blocks are given up", store.free(7), 38);
        Check.due("9: get", store.get(0, Stores.ALL), 60);
        Stores.dueGot("9", store, 3, 60);
        promise9OnFailedNodes();
    }

    private static void promise9OnFailedNodes() {
        ShareStore store = new ShareStore();
        Stores.cutPut(store, 0, 1, 30, 13);
        Stores.fail(store, 0, 4);
        Check.due("9: a failed node's record counts", store.settle(0), 1);
        Check.due("9: a live one flips", store.record(1, 0, 0), 1);
        Check.due("9: a failed one does not", store.record(4, 0, 0), NONE);
        Check.due("9: it keeps its shadow", store.record(4, 0, 3), 1);
        store = new ShareStore();
        Stores.cutPut(store, 0, 1, 30, 13);
        store.wipe(0);
        Check.due("9: the only record was wiped", store.settle(0), 0);
        Check.due("9: all shadows are given up", store.free(11), 40);
        Stores.cutPut(store, 0, 2, 30, 3);
        store.fail(2);
        Check.due("9: not taken", store.settle(0), 0);
        Check.due("9: a failed node keeps the shadow", store.record(2, 0, 3), 2);
        Check.due("9: the live ones do not", store.record(1, 0, 3), NONE);
        Stores.cutPut(store, 0, 3, 30, 0);
        Check.due("9: cut behind no message", store.settle(0), 0);
        store.cut(11);
        store.remove(0);
        store.fail(1);
        store.back(1);
        Check.due("9: a shadow lost", store.record(1, 0, 3), NONE);
        Check.due("9: a remove behind eleven shadows is not taken", store.settle(0), 0);
    }

    private static void promise10() {
        ShareStore store = new ShareStore();
        for (int object : NO_OBJECTS) {
            Check.due("10: get(" + object + ")", store.get(object, Stores.ALL), BAD);
        }
        Check.due("10: without a version", store.get(0, Stores.ALL), FEW);
        int number = 0;
        for (int bytes : new int[] {1, 29, 30, 31, 60, 145, 240}) {
            number++;
            dueAnyFive(number, bytes);
        }
        Stores.put(store, 0, 9, 35);
        Check.due("10: other bits are not looked at", store.get(0, -1), 35);
        Check.due("10: nor do they count", store.get(0, -4096 | 15), FEW);
        Check.due("10: nobody is told", store.get(0, 0), FEW);
        Check.due("10: four", store.get(0, 0xF00), FEW);
        Check.due("10: five", store.get(0, 0xF01), 35);
        Stores.dueGot("10", store, 9, 35);
        store.fail(0);
        long before = Stores.state(store);
        Check.due("10: a failed one does not count", store.get(0, 0xF01), FEW);
        Check.due("10: refused, changing nothing", Stores.state(store), before);
        store.remove(0);
        Check.due("10: removed", store.get(0, Stores.ALL), EMPTY);
        Check.due("10: few comes first", store.get(0, 0xF01), FEW);
        Check.due("10: what was got stays", store.got(0), Stores.byteOf(9, 0));
        Stores.cutPut(store, 0, 1, 5, 20);
        Check.due("10: open", store.get(0, Stores.ALL), NO);
        Check.due("10: open comes first", store.get(0, 0), NO);
        promise10BehindARebuilding();
    }

    private static void dueAnyFive(int number, int bytes) {
        for (int nodes = 0; nodes < 4096; nodes++) {
            if (Integer.bitCount(nodes) == 5) {
                ShareStore store = new ShareStore();
                Stores.put(store, 5, number, bytes);
                Check.due("10: get(5, " + nodes + ")", store.get(5, nodes), bytes);
                Stores.dueGot("10: get(5, " + nodes + ")", store, number, bytes);
            }
        }
    }

    private static void promise10BehindARebuilding() {
        ShareStore store = new ShareStore();
        Stores.put(store, 1, 4, 95);
        for (int node = 0; node < 12; node++) {
            store.wipe(node);
            store.rebuild(node, Stores.ALL);
        }
        Check.due("10: of nodes made anew", store.get(1, 0x2AA), 95);
        Stores.dueGot("10: of nodes made anew", store, 4, 95);
        store.wipe(2);
        Check.due("10: a wiped one is not fresh", store.get(1, 0x1F), FEW);
    }

    private static void promise11() {
        ShareStore store = new ShareStore();
        Check.due("11: nothing was got", store.got(0), NONE);
        Stores.put(store, 0, 1, 240);
        Stores.put(store, 1, 2, 3);
        Check.due("11: a put is no get", store.got(0), NONE);
        store.get(0, Stores.ALL);
        Stores.dueGot("11: long", store, 1, 240);
        store.get(1, Stores.ALL);
        Stores.dueGot("11: short behind long", store, 2, 3);
        for (int i : new int[] {-1, 3, 4, 239, 240, 255, 256, Integer.MIN_VALUE, Integer.MAX_VALUE}) {
            Check.due("11: got(" + i + ")", store.got(i), NONE);
        }
        store.remove(1);
        store.get(1, Stores.ALL);
        Stores.dueGot("11: behind a refused get", store, 2, 3);
        store.feed(0x80FF00L, 3);
        store.put(1);
        store.get(1, Stores.ALL);
        Check.due("11: 128", store.got(0), 128);
        Check.due("11: 255", store.got(1), 255);
        Check.due("11: 0", store.got(2), 0);
    }

    private static void promise12() {
        ShareStore store = new ShareStore();
        for (int object : NO_OBJECTS) {
            Check.due("12: version(" + object + ")", store.version(object), BAD);
        }
        Check.due("12: none", store.version(5), 0);
        Stores.put(store, 5, 1, 5);
        store.remove(5);
        Check.due("12: two", store.version(5), 2);
        Check.due("12: of another", store.version(4), 0);
        Stores.cutPut(store, 5, 2, 5, 16);
        Check.due("12: four have the open one", store.version(5), 2);
        Stores.fail(store, 4, 5, 6, 7);
        Check.due("12: four old ones are live, too", store.version(5), 0);
        store.back(7);
        Check.due("12: five are", store.version(5), 2);
        store = new ShareStore();
        Stores.put(store, 5, 1, 5);
        Stores.cutPut(store, 5, 2, 5, 17);
        Check.due("12: five have the open one", store.version(5), 2);
        store.fail(0);
        Check.due("12: four of these are live", store.version(5), 1);
        store.back(0);
        Stores.fail(store, 5, 6, 7, 8, 9, 10, 11);
        Check.due("12: five live in all", store.version(5), 2);
    }

    private static void promise13() {
        ShareStore store = new ShareStore();
        for (int object : NO_OBJECTS) {
            Check.due("13: open(" + object + ")", store.open(object), BAD);
        }
        Stores.put(store, 3, 1, 5);
        Check.due("13: not cut", store.open(3), 0);
        Stores.cutPut(store, 3, 1, 5, 0);
        Check.due("13: cut", store.open(3), 1);
        Check.due("13: another", store.open(2), 0);
        store.settle(3);
        Check.due("13: settled", store.open(3), 0);
        Stores.cutPut(store, 3, 1, 5, 23);
        Check.due("13: cut before the last", store.open(3), 1);
        for (int node = 0; node < 12; node++) {
            store.wipe(node);
        }
        Check.due("13: till it is settled", store.open(3), 1);
    }

    public static void main(String[] args) {
        promise5();
        promise6();
        promise7();
        promise8();
        promise9();
        promise10();
        promise11();
        promise12();
        promise13();
        Check.finish();
    }
}
