/** Promises 5 to 13: the tape, puts and removes, settling, getting. What is refused first is told in RefusalsTest. */
public final class ContentsTest {
    private static final int NONE = ShareStore.NONE, BAD = ShareStore.BAD, NO = ShareStore.NO, FEW = ShareStore.FEW;
    private static final int FULL = ShareStore.FULL, EMPTY = ShareStore.EMPTY;
    private static final int ALL = Stores.ALL;
    private static final int[] NO_OBJECTS = {-1, 6, Integer.MIN_VALUE, Integer.MAX_VALUE};

    private static ShareStore fedTo(int bytes) {
        ShareStore store = new ShareStore();
        Stores.feed(store, 1, bytes);
        return store;
    }

    // ---- 5: feed

    private static void dueFed(long w, int n, int... due) {
        ShareStore store = new ShareStore();
        Check.due("feed(" + w + ", " + n + ")", store.feed(w, n), n);
        store.put(0);
        Check.due("get", store.get(0, ALL), n);
        for (int i = 0; i < n; i++) {
            Check.due("feed(" + w + ", " + n + "), then got(" + i + ")", store.got(i), due[i]);
        }
    }

    static void promise05_theHighestOfTheLowestComesFirst() {
        dueFed(0x0102030405060708L, 1, 8);
        dueFed(0x0102030405060708L, 2, 7, 8);
        dueFed(0x0102030405060708L, 7, 2, 3, 4, 5, 6, 7, 8);
    }

    static void promise05_eightBytesAreAllOfW() {
        dueFed(0x0102030405060708L, 8, 1, 2, 3, 4, 5, 6, 7, 8);
        dueFed(Long.MIN_VALUE, 8, 128, 0, 0, 0, 0, 0, 0, 0);
        dueFed(-2L, 8, 255, 255, 255, 255, 255, 255, 255, 254);
        dueFed(Long.MAX_VALUE, 8, 127, 255, 255, 255, 255, 255, 255, 255);
    }

    static void promise05_bytesAreNeverBelowNought() {
        dueFed(-1L, 1, 255);
        dueFed(0x80L, 1, 128);
        dueFed(0L, 3, 0, 0, 0);
    }

    static void promise05_answersHowManyTheTapeHas() {
        ShareStore store = new ShareStore();
        Check.due("first", store.feed(1L, 8), 8);
        Check.due("second", store.feed(1L, 1), 9);
        Check.due("third", store.feed(1L, 3), 12);
        Check.due("count(1)", store.count(1), 12);
    }

    static void promise05_bytesComeBehindThoseThatAreThere() {
        ShareStore store = new ShareStore();
        store.feed(0x0A0BL, 2);
        store.feed(0x0CL, 1);
        store.put(0);
        store.get(0, ALL);
        Check.due("got(0)", store.got(0), 10);
        Check.due("got(1)", store.got(1), 11);
        Check.due("got(2)", store.got(2), 12);
    }

    static void promise05_nBelowOneIsBad() {
        Check.due("feed(1, 0)", new ShareStore().feed(1L, 0), BAD);
        Check.due("feed(1, -1)", new ShareStore().feed(1L, -1), BAD);
        Check.due("feed(1, least)", new ShareStore().feed(1L, Integer.MIN_VALUE), BAD);
    }

    static void promise05_nAboveEightIsBad() {
        Check.due("feed(1, 9)", new ShareStore().feed(1L, 9), BAD);
        Check.due("feed(1, most)", new ShareStore().feed(1L, Integer.MAX_VALUE), BAD);
    }

    static void promise05_twoHundredFortyAreNotTooMany() {
        Check.due("232 and 8", fedTo(232).feed(1L, 8), 240);
        Check.due("239 and 1", fedTo(239).feed(1L, 1), 240);
    }

    static void promise05_aboveTwoHundredFortyIsFull() {
        Check.due("240 and 1", fedTo(240).feed(1L, 1), FULL);
        Check.due("239 and 2", fedTo(239).feed(1L, 2), FULL);
        Check.due("233 and 8", fedTo(233).feed(1L, 8), FULL);
    }

    static void promise05_whatFitsComesBehindARefusal() {
        ShareStore store = fedTo(239);
        store.feed(1L, 2);
        Check.due("count(1)", store.count(1), 239);
        Check.due("feed(1, 1)", store.feed(1L, 1), 240);
    }

    // ---- 6: cut

    static void promise06_theLeastAndTheGreatestCut() {
        for (int n : new int[] {0, 1, 11, 12, 13, 22, 23}) {
            ShareStore store = new ShareStore();
            Check.due("cut(" + n + ")", store.cut(n), 1);
            Check.due("count(5)", store.count(5), n);
            Check.due("remove behind " + n, store.remove(0), 0);
            Check.due("messages", store.count(2), n);
        }
    }

    static void promise06_belowNoughtIsBad() {
        Check.due("cut(-1)", new ShareStore().cut(-1), BAD);
        Check.due("cut(least)", new ShareStore().cut(Integer.MIN_VALUE), BAD);
    }

    static void promise06_aboveTwentyThreeIsBad() {
        Check.due("cut(24)", new ShareStore().cut(24), BAD);
        Check.due("cut(most)", new ShareStore().cut(Integer.MAX_VALUE), BAD);
    }

    static void promise06_aRefusedCutLeavesWhatWasTold() {
        ShareStore store = new ShareStore();
        store.cut(3);
        store.cut(24);
        Check.due("count(5)", store.count(5), 3);
        store.cut(-1);
        Check.due("count(5)", store.count(5), 3);
    }

    static void promise06_whatIsToldLastCounts() {
        ShareStore store = new ShareStore();
        store.cut(3);
        store.cut(14);
        Check.due("count(5)", store.count(5), 14);
        Check.due("put", Stores.put(store, 0, 1, 3), 0);
        Check.due("messages", store.count(2), 14);
    }

    static void promise06_aRefusedPutIsNotTheNext() {
        ShareStore store = new ShareStore();
        store.cut(7);
        Check.due("EMPTY", store.put(0), EMPTY);
        Check.due("BAD", store.put(6), BAD);
        Stores.fail(store, 0, 1, 2, 3);
        Check.due("FEW", store.put(0), FEW);
        Stores.back(store, 0, 1, 2, 3);
        Check.due("count(5)", store.count(5), 7);
        Check.due("put", Stores.put(store, 0, 1, 3), 0);
        store.cut(8);
        Stores.feed(store, 1, 3);
        Check.due("NO", store.put(0), NO);
        Check.due("count(5)", store.count(5), 8);
        store = Stores.crammed();
        store.cut(9);
        Check.due("FULL", Stores.put(store, 5, 1, 3), FULL);
        Check.due("count(5)", store.count(5), 9);
    }

    static void promise06_aRefusedRemoveIsNotTheNext() {
        ShareStore store = new ShareStore();
        Stores.cutRemove(store, 0, 5);
        store.cut(7);
        Check.due("BAD", store.remove(6), BAD);
        Check.due("NO", store.remove(0), NO);
        Stores.fail(store, 0, 1, 2, 3);
        Check.due("FEW", store.remove(1), FEW);
        Stores.back(store, 0, 1, 2, 3);
        Check.due("count(5)", store.count(5), 7);
        Check.due("remove", store.remove(1), 0);
        Check.due("messages", store.count(2), 5 + 7);
    }

    static void promise06_aRemoveIsCutToo() {
        ShareStore store = Stores.holding(0, 1, 3);
        Check.due("remove", Stores.cutRemove(store, 0, 20), 0);
        Check.due("open", store.open(0), 1);
    }

    static void promise06_withNoMoreThanNItIsNotCut() {
        ShareStore store = new ShareStore();
        Stores.fail(store, 0, 5, 11);
        Check.due("18 of 18", Stores.cutRemove(store, 0, 18), 1);
        Check.due("messages", store.count(2), 18);
        Check.due("open", store.open(0), 0);
    }

    static void promise06_norIsALaterOne() {
        ShareStore store = new ShareStore();
        Stores.fail(store, 0, 5, 11);
        Stores.cutRemove(store, 0, 18);
        Check.due("count(5)", store.count(5), NONE);
        Stores.back(store, 0, 5, 11);
        Check.due("24 messages", store.remove(0), 2);
        Check.due("messages", store.count(2), 18 + 24);
    }

    static void promise06_withOneMoreThanNItIsCut() {
        ShareStore store = new ShareStore();
        Stores.fail(store, 0, 5, 11);
        Check.due("17 of 18", Stores.cutRemove(store, 0, 17), 0);
        Check.due("messages", store.count(2), 17);
    }

    static void promise06_behindACutOneTheNextIsNot() {
        ShareStore store = new ShareStore();
        Stores.cutRemove(store, 0, 0);
        Check.due("count(5)", store.count(5), NONE);
        Check.due("remove(1)", store.remove(1), 1);
        Check.due("messages", store.count(2), 24);
    }

    static void promise06_otherCallsDoNotUseItUp() {
        ShareStore store = Stores.holding(0, 1, 3);
        Stores.cutPut(store, 1, 1, 3, 14);
        store.cut(4);
        store.settle(1);
        store.get(0, ALL);
        store.fail(3);
        store.back(3);
        store.wipe(3);
        store.rebuild(3, ALL);
        Stores.feed(store, 2, 9);
        Check.due("count(5)", store.count(5), 4);
        Check.due("put", store.put(0), 0);
    }

    // ---- 7: put

    static void promise07_answersTheVersion() {
        ShareStore store = new ShareStore();
        Check.due("first", Stores.put(store, 2, 1, 61), 1);
        Check.due("second", Stores.put(store, 2, 2, 30), 2);
        Check.due("of another", Stores.put(store, 3, 3, 60), 1);
    }

    static void promise07_theTapeIsThePutContents() {
        ShareStore store = Stores.holding(2, 1, 61);
        for (int node = 0; node < 12; node++) {
            Stores.dueRecord("put", store, node, 2, 1, 61, 3, NONE, NONE, NONE);
        }
        store = Stores.holding(2, 1, 61);
        Stores.dueShares("first", store, 0, 2, 1, 61);
        Stores.dueShares("last", store, 11, 2, 1, 61);
        store = Stores.holding(2, 3, 240);
        Stores.dueShares("longest", store, 11, 2, 3, 240);
        store = Stores.holding(2, 4, 1);
        Stores.dueShares("shortest", store, 11, 2, 4, 1);
    }

    static void promise07_theTapeIsEmptyThen() {
        ShareStore store = Stores.holding(2, 1, 61);
        Check.due("count(1)", store.count(1), 0);
        Check.due("put again", store.put(2), EMPTY);
        Check.due("feed", store.feed(9L, 1), 1);
        store.put(2);
        Check.due("get", store.get(2, ALL), 1);
        Check.due("got(0)", store.got(0), 9);
    }

    static void promise07_theTapeIsEmptyThenThoughItWasCut() {
        for (int n : new int[] {0, 5, 23}) {
            ShareStore store = new ShareStore();
            Stores.cutPut(store, 0, 1, 40, n);
            Check.due("count(1)", store.count(1), 0);
        }
    }

    static void promise07_cutItAnswers0() {
        ShareStore store = Stores.holding(0, 1, 40);
        Check.due("put", Stores.cutPut(store, 0, 2, 40, 23), 0);
        Check.due("put behind no message", Stores.cutPut(store, 1, 2, 40, 0), 0);
    }

    static void promise07_objectIsNotAsTold() {
        for (int object : NO_OBJECTS) {
            Check.due("put(" + object + ")", fedTo(5).put(object), BAD);
        }
    }

    static void promise07_itIsOpen() {
        ShareStore store = new ShareStore();
        Stores.cutPut(store, 1, 1, 10, 2);
        Check.due("put(1)", Stores.put(store, 1, 1, 10), NO);
        Check.due("another", store.put(0), 1);
        store.settle(1);
        Check.due("settled", Stores.put(store, 1, 1, 10), 2);
    }

    static void promise07_nineLiveNodesAreEnough() {
        ShareStore store = fedTo(10);
        Stores.fail(store, 9, 10, 11);
        Check.due("put", store.put(0), 1);
    }

    static void promise07_eightLiveNodesAreFew() {
        ShareStore store = fedTo(10);
        Stores.fail(store, 8, 9, 10, 11);
        Check.due("put", store.put(0), FEW);
        store.wipe(8);
        Check.due("put with the wiped one", store.put(0), 1);
    }

    static void promise07_asManyBlocksFreeAsStripesAreEnough() {
        ShareStore store = new ShareStore();
        for (int object = 0; object < 4; object++) {
            Stores.put(store, object, object, 240);
        }
        Check.due("eight for eight", Stores.put(store, 4, 4, 240), 1);
        Check.due("free(0)", store.free(0), 0);
    }

    static void promise07_oneBlockLessIsFull() {
        ShareStore store = new ShareStore();
        for (int object = 0; object < 4; object++) {
            Stores.put(store, object, object, 240);
        }
        Stores.put(store, 5, 5, 1);
        Check.due("seven for eight", Stores.put(store, 4, 4, 211), FULL);
        store = Stores.crammed();
        Check.due("none for one", Stores.put(store, 5, 5, 1), FULL);
    }

    static void promise07_theOldRecordsBlocksAreNotFreeYet() {
        ShareStore store = Stores.crammed();
        Check.due("put(0)", Stores.put(store, 0, 5, 1), FULL);
        store.remove(0);
        Check.due("removed", store.put(0), 3);
    }

    static void promise07_oneLiveNodeWithoutRoomIsFull() {
        for (int last : new int[] {0, 6, 11}) {
            ShareStore store = Stores.crammed();
            for (int node = 0; node < 12; node++) {
                if (node != last) {
                    store.wipe(node);
                }
            }
            Check.due("node " + last + " has none", Stores.put(store, 5, 5, 1), FULL);
        }
    }

    static void promise07_aFailedNodeWithoutRoomIsNotLookedAt() {
        for (int last : new int[] {0, 6, 11}) {
            ShareStore store = Stores.crammed();
            for (int node = 0; node < 12; node++) {
                if (node != last) {
                    store.wipe(node);
                }
            }
            store.fail(last);
            Check.due("node " + last + " has none", Stores.put(store, 5, 5, 1), 1);
        }
    }

    static void promise07_anEmptyTape() {
        Check.due("new", new ShareStore().put(0), EMPTY);
        Check.due("no block is free", Stores.crammed().put(5), EMPTY);
    }

    // ---- 8: remove

    static void promise08_answersTheVersion() {
        ShareStore store = new ShareStore();
        Check.due("of nothing", store.remove(0), 1);
        Check.due("of a removed one", store.remove(0), 2);
        Stores.put(store, 0, 1, 100);
        Check.due("of contents", store.remove(0), 4);
        Check.due("version(0)", store.version(0), 4);
    }

    static void promise08_theVersionHasNoContents() {
        ShareStore store = Stores.holding(0, 1, 100);
        store.remove(0);
        for (int node = 0; node < 12; node++) {
            Stores.dueRecord("removed", store, node, 0, 2, 0, 0, NONE, NONE, NONE);
            Check.due("free(" + node + ")", store.free(node), 40);
        }
        Check.due("get", store.get(0, ALL), EMPTY);
    }

    static void promise08_theTapeStaysAsItWas() {
        ShareStore store = fedTo(7);
        store.remove(0);
        Check.due("count(1)", store.count(1), 7);
        Stores.cutRemove(store, 0, 3);
        Check.due("count(1)", store.count(1), 7);
    }

    static void promise08_anEmptyTapeDoesNotMatter() {
        Check.due("remove", new ShareStore().remove(5), 1);
    }

    static void promise08_blocksAreNotAskedFor() {
        ShareStore store = Stores.crammed();
        Stores.feed(store, 1, 100);
        Check.due("of nothing", store.remove(5), 1);
        Check.due("of contents", store.remove(4), 2);
        Check.due("free(0)", store.free(0), 8);
    }

    static void promise08_cutItAnswers0() {
        ShareStore store = Stores.holding(0, 1, 100);
        Check.due("remove", Stores.cutRemove(store, 0, 5), 0);
        Check.due("open(0)", store.open(0), 1);
        Stores.dueRecord("reached", store, 4, 0, 1, 100, 4, 2, 0, 0);
        Stores.dueRecord("not reached", store, 5, 0, 1, 100, 4, NONE, NONE, NONE);
    }

    static void promise08_objectIsNotAsTold() {
        for (int object : NO_OBJECTS) {
            Check.due("remove(" + object + ")", new ShareStore().remove(object), BAD);
        }
    }

    static void promise08_itIsOpen() {
        ShareStore store = new ShareStore();
        Stores.cutRemove(store, 1, 5);
        Check.due("remove(1)", store.remove(1), NO);
        Check.due("another", store.remove(0), 1);
        store.settle(1);
        Check.due("settled", store.remove(1), 2);
    }

    static void promise08_nineLiveNodesAreEnough() {
        ShareStore store = new ShareStore();
        Stores.fail(store, 0, 1, 2);
        Check.due("remove(1)", store.remove(1), 1);
    }

    static void promise08_eightLiveNodesAreFew() {
        ShareStore store = new ShareStore();
        Stores.fail(store, 0, 1, 2, 3);
        Check.due("remove(1)", store.remove(1), FEW);
    }

    // ---- 9: settle

    static void promise09_theNewVersionWasTaken() {
        ShareStore store = Stores.holding(0, 1, 30);
        Stores.cutPut(store, 0, 3, 60, 13);
        Check.due("settle", store.settle(0), 1);
        for (int node = 0; node < 12; node++) {
            Stores.dueRecord("taken", store, node, 0, 2, 60, 2, NONE, NONE, NONE);
        }
        Check.due("version(0)", store.version(0), 2);
        Check.due("get", store.get(0, ALL), 60);
        Stores.dueGot("get", store, 3, 60);
    }

    static void promise09_theNewVersionWasNotTaken() {
        ShareStore store = Stores.holding(0, 1, 30);
        Stores.cutPut(store, 0, 3, 60, 12);
        Check.due("settle", store.settle(0), 0);
        for (int node = 0; node < 12; node++) {
            Stores.dueRecord("not taken", store, node, 0, 1, 30, 1, NONE, NONE, NONE);
        }
        Check.due("version(0)", store.version(0), 1);
        Check.due("get", store.get(0, ALL), 30);
        Stores.dueGot("get", store, 1, 30);
    }

    static void promise09_aRemoveIsSettledToo() {
        ShareStore store = Stores.holding(0, 1, 30);
        Stores.cutRemove(store, 0, 12);
        Check.due("behind the shadows", store.settle(0), 0);
        Stores.cutRemove(store, 0, 13);
        Check.due("behind one flip", store.settle(0), 1);
        Check.due("version(0)", store.version(0), 3);
        Check.due("free(11)", store.free(11), 40);
    }

    static void promise09_takenThoughFewAreLive() {
        ShareStore store = Stores.holding(0, 1, 30);
        Stores.cutPut(store, 0, 3, 60, 13);
        Stores.fail(store, 0, 1, 2, 3, 4, 5, 6, 7, 8, 9, 10, 11);
        Check.due("settle", store.settle(0), 1);
        Check.due("open(0)", store.open(0), 0);
        Stores.back(store, 0, 1, 2, 3, 4, 5, 6, 7, 8, 9, 10, 11);
        Check.due("eleven gave it up", store.version(0), 1);
    }

    static void promise09_cutBehindNoMessage() {
        ShareStore store = new ShareStore();
        Stores.cutPut(store, 0, 1, 30, 0);
        Check.due("settle", store.settle(0), 0);
        Check.due("settle again", store.settle(0), NO);
    }

    static void promise09_objectIsNotAsTold() {
        for (int object : NO_OBJECTS) {
            Check.due("settle(" + object + ")", new ShareStore().settle(object), BAD);
        }
    }

    static void promise09_itIsNotOpen() {
        ShareStore store = new ShareStore();
        Check.due("new", store.settle(0), NO);
        Stores.put(store, 0, 1, 30);
        Check.due("put", store.settle(0), NO);
        Stores.cutPut(store, 0, 1, 30, 13);
        store.settle(0);
        Check.due("settled", store.settle(0), NO);
    }

    // ---- 10: get

    static void promise10_anyFiveGiveAllBack() {
        int number = 0;
        for (int bytes : new int[] {1, 29, 30, 31, 60, 145, 240}) {
            number++;
            for (int nodes = 0; nodes < 4096; nodes++) {
                if (Integer.bitCount(nodes) == 5) {
                    ShareStore store = Stores.holding(5, number, bytes);
                    Check.due("get(5, " + nodes + ")", store.get(5, nodes), bytes);
                    Stores.dueGot("get(5, " + nodes + ")", store, number, bytes);
                }
            }
        }
    }

    static void promise10_otherBitsAreNotLookedAt() {
        ShareStore store = Stores.holding(0, 9, 35);
        Check.due("all bits", store.get(0, -1), 35);
        Check.due("four and bits that tell nobody", store.get(0, -4096 | 15), FEW);
        Check.due("five and bits that tell nobody", store.get(0, -4096 | 31), 35);
        Check.due("the sign alone", store.get(0, Integer.MIN_VALUE), FEW);
    }

    static void promise10_fourToldAreFew() {
        ShareStore store = Stores.holding(0, 9, 35);
        Check.due("nobody", store.get(0, 0), FEW);
        Check.due("four", store.get(0, 0xF00), FEW);
        Check.due("five", store.get(0, 0xF01), 35);
    }

    static void promise10_fourFreshAreFew() {
        ShareStore store = Stores.holding(0, 9, 35);
        store.fail(0);
        Check.due("four live", store.get(0, 0xF01), FEW);
        store.wipe(8);
        Check.due("four that have it", store.get(0, 0xF02), FEW);
        Stores.put(store, 0, 8, 40);
        store.back(0);
        Check.due("four that have the newest", store.get(0, 0xF01), FEW);
        Check.due("five", store.get(0, 0xF02), 40);
    }

    static void promise10_withoutANewestVersionFew() {
        ShareStore store = new ShareStore();
        Check.due("never put", store.get(0, ALL), FEW);
        Stores.put(store, 0, 9, 35);
        Stores.fail(store, 0, 1, 2, 3, 4, 5, 6, 7);
        Check.due("four live", store.get(0, ALL), FEW);
    }

    static void promise10_theNewestVersionHasNoContents() {
        ShareStore store = Stores.holding(0, 9, 35);
        store.remove(0);
        Check.due("removed", store.get(0, ALL), EMPTY);
        store.remove(1);
        Check.due("never put", store.get(1, ALL), EMPTY);
    }

    static void promise10_fourOfTheRemovedAndThreeOfTheOldVersionAreFew() {
        ShareStore store = Stores.holding(0, 1, 35);
        Stores.fail(store, 0, 1, 2);
        store.remove(0);
        Check.due("removed", store.get(0, ALL), EMPTY);
        Stores.back(store, 0, 1, 2);
        Stores.wipe(store, 3, 4, 5, 6, 7);
        Check.due("neither is newest", store.get(0, ALL), FEW);
    }

    static void promise10_anOlderVersionIsGotWhereTheNewerOneHasFourLive() {
        ShareStore store = Stores.holding(0, 1, 35);
        Stores.cutPut(store, 0, 2, 61, 13);
        Stores.fail(store, 5, 6, 7, 8, 9, 10, 11);
        store.settle(0);
        Check.due("five have the new one", store.get(0, ALL), 61);
        Stores.back(store, 5, 6, 7, 8, 9, 10, 11);
        store.fail(0);
        Check.due("four have the new one", store.get(0, ALL), 35);
        Stores.dueGot("the old one", store, 1, 35);
    }

    static void promise10_itIsOpen() {
        ShareStore store = Stores.holding(0, 1, 35);
        Stores.cutPut(store, 0, 2, 35, 0);
        Check.due("open", store.get(0, ALL), NO);
        store.settle(0);
        Check.due("settled", store.get(0, ALL), 35);
    }

    static void promise10_objectIsNotAsTold() {
        for (int object : NO_OBJECTS) {
            Check.due("get(" + object + ")", new ShareStore().get(object, ALL), BAD);
        }
    }

    // ---- 11: got

    static void promise11_theFirstAndTheLastByte() {
        ShareStore store = Stores.holding(0, 1, 240);
        store.get(0, ALL);
        Check.due("got(0)", store.got(0), Stores.byteOf(1, 0));
        Check.due("got(239)", store.got(239), Stores.byteOf(1, 239));
    }

    static void promise11_leastAndGreatestBytes() {
        ShareStore store = new ShareStore();
        store.feed(0x80FF007FL, 4);
        store.put(1);
        store.get(1, ALL);
        Check.due("128", store.got(0), 128);
        Check.due("255", store.got(1), 255);
        Check.due("0", store.got(2), 0);
        Check.due("127", store.got(3), 127);
    }

    static void promise11_notSoManyAreNone() {
        ShareStore store = Stores.holding(0, 1, 240);
        Stores.put(store, 1, 2, 3);
        store.get(0, ALL);
        Check.due("got(240)", store.got(240), NONE);
        store.get(1, ALL);
        Check.due("got(2)", store.got(2), Stores.byteOf(2, 2));
        for (int i : new int[] {3, 4, 30, 239, 240, 255, 256, Integer.MAX_VALUE}) {
            Check.due("got(" + i + ")", store.got(i), NONE);
        }
    }

    static void promise11_belowNoughtIsNone() {
        ShareStore store = Stores.holding(0, 1, 240);
        store.get(0, ALL);
        Check.due("got(-1)", store.got(-1), NONE);
        Check.due("got(least)", store.got(Integer.MIN_VALUE), NONE);
    }

    static void promise11_nothingWasGot() {
        ShareStore store = new ShareStore();
        Check.due("new", store.got(0), NONE);
        Stores.put(store, 0, 1, 240);
        Check.due("a put is no get", store.got(0), NONE);
        store.get(0, 15);
        Check.due("a refused get", store.got(0), NONE);
    }

    static void promise11_whatWasGotLast() {
        ShareStore store = Stores.holding(0, 1, 50);
        Stores.put(store, 1, 2, 3);
        store.get(0, ALL);
        store.get(1, ALL);
        Stores.dueGot("short behind long", store, 2, 3);
        store.get(0, ALL);
        Stores.dueGot("long behind short", store, 1, 50);
    }

    static void promise11_aRefusedGetLeavesIt() {
        ShareStore store = Stores.holding(0, 1, 50);
        Stores.put(store, 1, 2, 3);
        store.get(0, ALL);
        store.get(1, 15);
        store.get(6, ALL);
        store.remove(1);
        store.get(1, ALL);
        Stores.cutRemove(store, 1, 0);
        store.get(1, ALL);
        Stores.dueGot("refused", store, 1, 50);
    }

    static void promise11_itStaysThoughTheObjectChanges() {
        ShareStore store = Stores.holding(0, 1, 50);
        store.get(0, ALL);
        Stores.put(store, 0, 2, 60);
        Stores.dueGot("put", store, 1, 50);
        store.remove(0);
        Stores.dueGot("remove", store, 1, 50);
    }

    // ---- 12: version

    static void promise12_noneIs0() {
        ShareStore store = new ShareStore();
        Check.due("version(0)", store.version(0), 0);
        Check.due("version(5)", store.version(5), 0);
    }

    static void promise12_ofEachObject() {
        ShareStore store = Stores.holding(5, 1, 5);
        store.remove(5);
        Stores.put(store, 0, 1, 5);
        Check.due("version(5)", store.version(5), 2);
        Check.due("version(4)", store.version(4), 0);
        Check.due("version(0)", store.version(0), 1);
    }

    static void promise12_whileItIsOpen() {
        ShareStore store = Stores.holding(5, 1, 5);
        Stores.cutPut(store, 5, 2, 5, 16);
        Check.due("four have the new one", store.version(5), 1);
        store = Stores.holding(5, 1, 5);
        Stores.cutPut(store, 5, 2, 5, 17);
        Check.due("five have the new one", store.version(5), 2);
    }

    static void promise12_objectIsNotAsTold() {
        for (int object : NO_OBJECTS) {
            Check.due("version(" + object + ")", new ShareStore().version(object), BAD);
        }
    }

    // ---- 13: open

    static void promise13_whetherItIsOpen() {
        ShareStore store = new ShareStore();
        Check.due("new", store.open(3), 0);
        Stores.put(store, 3, 1, 5);
        Check.due("put", store.open(3), 0);
        Stores.cutPut(store, 3, 1, 5, 0);
        Check.due("cut", store.open(3), 1);
        Check.due("another", store.open(2), 0);
        store.settle(3);
        Check.due("settled", store.open(3), 0);
        Stores.cutRemove(store, 0, 23);
        Check.due("cut before the last message", store.open(0), 1);
        Stores.cutRemove(store, 5, 12);
        Check.due("cut behind the shadows", store.open(5), 1);
    }

    static void promise13_objectIsNotAsTold() {
        for (int object : NO_OBJECTS) {
            Check.due("open(" + object + ")", new ShareStore().open(object), BAD);
        }
    }

    public static void main(String[] args) throws ReflectiveOperationException {
        Check.runPromises(ContentsTest.class, 5, 13);
        Check.finish();
    }
}
