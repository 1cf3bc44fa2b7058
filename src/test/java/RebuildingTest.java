/** REBUILDING, as "Terms" tell it, and promise 17. */
public final class RebuildingTest {
    private static final int NONE = ShareStore.NONE, BAD = ShareStore.BAD, NO = ShareStore.NO, FEW = ShareStore.FEW;
    private static final int FULL = ShareStore.FULL;
    private static final int ALL = Stores.ALL;

    // ---- terms: which objects

    static void terms_rebuildingGoesOverObjectsByNumbers() {
        ShareStore store = new ShareStore();
        Stores.put(store, 5, 5, 31);
        Stores.put(store, 3, 3, 61);
        Stores.put(store, 0, 0, 1);
        store.wipe(2);
        Check.due("rebuild", store.rebuild(2, ALL), 8 * 6);
        Check.due("object 0", store.block(2, 0, 0, false), 0);
        Check.due("object 3", store.block(2, 3, 0, false), 1);
        Check.due("object 3", store.block(2, 3, 2, false), 3);
        Check.due("object 5", store.block(2, 5, 0, false), 4);
        Check.due("object 5", store.block(2, 5, 1, false), 5);
        Stores.dueShares("object 3", store, 2, 3, 3, 61);
        Stores.dueShares("object 5", store, 2, 5, 5, 31);
    }

    static void terms_rebuildingLeavesOpenObjects() {
        ShareStore store = Stores.holding(0, 1, 31);
        Stores.put(store, 1, 2, 31);
        store.wipe(4);
        Stores.cutPut(store, 0, 3, 61, 3);
        Check.due("one of two", store.rebuild(4, ALL), 16);
        Check.due("object 0 has a newest version", store.version(0), 1);
        Check.due("but is open", store.record(4, 0, 0), NONE);
        Check.due("object 1", store.record(4, 1, 0), 1);
        store.settle(0);
        Check.due("not open", store.rebuild(4, ALL), 16);
        Check.due("object 0", store.record(4, 0, 0), 1);
    }

    static void terms_rebuildingLeavesObjectsWithoutANewestVersion() {
        ShareStore store = Stores.holding(0, 1, 61);
        Stores.wipe(store, 4, 5, 6, 7, 8, 9, 10, 11);
        Check.due("rebuild(0)", store.rebuild(0, ALL), 0);
        Stores.dueRecord("one of four", store, 0, 0, 1, 61, 3, NONE, NONE, NONE);
        Check.due("rebuild(4)", store.rebuild(4, ALL), 0);
        Check.due("one without", store.record(4, 0, 0), NONE);
    }

    static void terms_rebuildingLeavesObjectsForWhichItIsFresh() {
        ShareStore store = Stores.holding(0, 1, 61);
        Stores.put(store, 1, 2, 31);
        store.fail(6);
        Stores.put(store, 1, 3, 31);
        store.back(6);
        Check.due("of one object alone", store.rebuild(6, ALL), 16);
        Check.due("of none", store.rebuild(6, ALL), 0);
        Check.due("symbols", store.count(3), 16);
    }

    static void terms_rebuildingGivesUpTheRecordFirst() {
        ShareStore store = Stores.holding(0, 1, 61);
        store.fail(6);
        Stores.put(store, 0, 2, 35);
        store.back(6);
        Check.due("rebuild", store.rebuild(6, ALL), 16);
        Check.due("its blocks serve again", store.block(6, 0, 0, false), 0);
        Check.due("its blocks serve again", store.block(6, 0, 1, false), 1);
        Check.due("free(6)", store.free(6), 38);
        Stores.dueRecord("the new one", store, 6, 0, 2, 35, 2, NONE, NONE, NONE);
        Stores.dueShares("its bytes", store, 6, 0, 2, 35);
    }

    static void terms_rebuildingGivesUpNoShadow() {
        ShareStore store = Stores.holding(0, 1, 61);
        Stores.put(store, 1, 2, 31);
        store.fail(6);
        Stores.put(store, 1, 3, 31);
        store.back(6);
        Stores.cutPut(store, 0, 4, 91, 12);
        Check.due("rebuild", store.rebuild(6, ALL), 16);
        Stores.dueRecord("the open one", store, 6, 0, 1, 61, 3, 2, 91, 4);
    }

    static void terms_rebuildingAVersionWithoutContentsNeedsNoSymbols() {
        ShareStore store = Stores.holding(0, 1, 61);
        store.fail(6);
        store.remove(0);
        store.back(6);
        Check.due("rebuild by nobody", store.rebuild(6, 0), 0);
        Stores.dueRecord("removed", store, 6, 0, 2, 0, 0, NONE, NONE, NONE);
        Check.due("fresh", store.fresh(6, 0), 1);
        Check.due("free(6)", store.free(6), 40);
        Check.due("symbols", store.count(3), 0);
    }

    static void terms_rebuildingTurnsANewerRecordBackToTheNewestVersion() {
        ShareStore store = Stores.holding(0, 1, 61);
        Stores.cutPut(store, 0, 2, 100, 13);
        Stores.fail(store, 3, 4, 5, 6, 7, 8, 9, 10, 11);
        Check.due("taken by three", store.settle(0), 1);
        Stores.back(store, 3, 4, 5, 6, 7, 8, 9, 10, 11);
        Check.due("nine have the old one", store.version(0), 1);
        Check.due("rebuild", store.rebuild(2, ALL), 8 * 3);
        Stores.dueRecord("the old one", store, 2, 0, 1, 61, 3, NONE, NONE, NONE);
        Stores.dueShares("the old one", store, 2, 0, 1, 61);
        Check.due("the next version", store.remove(0), 3);
    }

    // ---- terms: which helpers

    static void terms_helpersAreThoseTold() {
        ShareStore store = Stores.holding(0, 1, 61);
        store.wipe(0);
        Check.due("rebuild", store.rebuild(0, 0b110101111010), 24);
        Stores.dueSent("told", store, 0, 3, 0, 3, 3, 3, 3, 0, 3, 0, 3, 3);
    }

    static void terms_helpersAreFresh() {
        ShareStore store = Stores.holding(0, 1, 61);
        store.fail(1);
        Stores.put(store, 0, 2, 31);
        store.back(1);
        store.fail(2);
        Stores.wipe(store, 0, 3);
        Check.due("of 4 .. 11", store.rebuild(0, ALL), 16);
        Stores.dueSent("fresh", store, 0, 0, 0, 0, 2, 2, 2, 2, 2, 2, 2, 2);
        store.fail(4);
        Check.due("just eight with the one made anew", store.rebuild(3, ALL), 16);
        Stores.dueSent("fresh", store, 2, 0, 0, 0, 2, 4, 4, 4, 4, 4, 4, 4);
    }

    static void terms_theNodeItselfHelpsNot() {
        ShareStore store = Stores.holding(0, 1, 61);
        store.wipe(0);
        Check.due("seven others", store.rebuild(0, 0xFF), FEW);
        Check.due("eight others", store.rebuild(0, 0x1FF), 24);
        Check.due("sent(0)", store.sent(0), 0);
    }

    static void terms_ofLikeOnesTheLeastNumbersHelp() {
        ShareStore store = Stores.holding(0, 1, 31);
        store.wipe(3);
        store.rebuild(3, ALL);
        Stores.dueSent("0 .. 8 without 3", store, 2, 2, 2, 0, 2, 2, 2, 2, 2, 0, 0, 0);
    }

    static void terms_thoseThatSentLeastHelp() {
        ShareStore store = Stores.holding(0, 1, 31);
        store.wipe(3);
        store.rebuild(3, ALL);
        store.wipe(11);
        store.rebuild(11, ALL);
        // 3, 9, 10 sent nothing yet; of those with 2 symbols the five least numbers.
        Stores.dueSent("second", store, 4, 4, 4, 2, 4, 4, 2, 2, 2, 2, 2, 0);
        store.wipe(0);
        store.rebuild(0, ALL);
        // 11 sent nothing yet; then 3, 6, 7, 8, 9, 10 with 2; then 1 with 4.
        Stores.dueSent("third", store, 4, 6, 4, 4, 4, 4, 4, 4, 4, 4, 4, 2);
    }

    static void terms_sentIsLookedAtObjectByObject() {
        ShareStore store = Stores.holding(0, 1, 61);
        Stores.put(store, 2, 2, 10);
        store.wipe(0);
        Check.due("rebuild", store.rebuild(0, ALL), 8 * 3 + 8);
        // Object 0 asks 1 .. 8; object 2 then those that sent nothing, 9 .. 11, and 1 .. 5.
        Stores.dueSent("both", store, 0, 4, 4, 4, 4, 4, 3, 3, 3, 1, 1, 1);
    }

    static void terms_theSameEightSendOfEachStripe() {
        ShareStore store = Stores.holding(0, 1, 240);
        store.wipe(11);
        Check.due("rebuild", store.rebuild(11, ALL), 64);
        Stores.dueSent("eight stripes", store, 8, 8, 8, 8, 8, 8, 8, 8, 0, 0, 0, 0);
    }

    static void terms_madeAnewItHasTheRecord() {
        for (int node = 0; node < 12; node++) {
            ShareStore store = Stores.holding(4, 1, 95);
            store.wipe(node);
            Check.due("rebuild(" + node + ")", store.rebuild(node, ALL), 32);
            Stores.dueRecord("made anew", store, node, 4, 1, 95, 4, NONE, NONE, NONE);
            Stores.dueShares("made anew", store, node, 4, 1, 95);
            Check.due("fresh(" + node + ", 4)", store.fresh(node, 4), 1);
        }
    }

    static void terms_nodesMadeAnewHelpAndGiveAllBack() {
        ShareStore store = Stores.holding(1, 4, 95);
        for (int node = 0; node < 12; node++) {
            store.wipe(node);
            store.rebuild(node, ALL);
        }
        for (int node = 11; node >= 0; node--) {
            store.wipe(node);
            store.rebuild(node, ALL);
        }
        Check.due("get", store.get(1, 0x2AA), 95);
        Stores.dueGot("get", store, 4, 95);
    }

    // ---- promise 17

    static void promise17_answersHowManySymbolsWereSent() {
        ShareStore store = Stores.holding(0, 1, 95);
        Stores.put(store, 1, 2, 31);
        store.wipe(5);
        Check.due("rebuild", store.rebuild(5, ALL), 8 * 4 + 8 * 2);
        Check.due("symbols ever", store.count(3), 48);
        store.wipe(6);
        Check.due("rebuild", store.rebuild(6, ALL), 8 * 4 + 8 * 2);
        Check.due("symbols ever", store.count(3), 96);
    }

    static void promise17_nothingToDoIsNought() {
        ShareStore store = new ShareStore();
        Check.due("no objects", store.rebuild(0, 0), 0);
        Stores.put(store, 0, 1, 95);
        Check.due("fresh already", store.rebuild(0, 0), 0);
    }

    static void promise17_helpersAreToldAsBits() {
        ShareStore store = Stores.holding(0, 1, 1);
        store.wipe(4);
        Check.due("0 .. 8 and bits that tell nobody", store.rebuild(4, 0x1FF | -4096), 8);
        Stores.dueSent("told", store, 1, 1, 1, 1, 0, 1, 1, 1, 1, 0, 0, 0);
        store.wipe(4);
        Check.due("4 .. 11 alone are seven", store.rebuild(4, 0xFF0), FEW);
        Check.due("bits that tell nobody are not counted", store.rebuild(4, 0x7FFFF0F0), FEW);
        Check.due("the sign alone", store.rebuild(4, Integer.MIN_VALUE), FEW);
        Check.due("all bits", store.rebuild(4, -1), 8);
    }

    static void promise17_nodeIsNotAsTold() {
        for (int node : new int[] {-1, 12, Integer.MIN_VALUE, Integer.MAX_VALUE}) {
            Check.due("rebuild(" + node + ", ALL)", new ShareStore().rebuild(node, ALL), BAD);
        }
    }

    static void promise17_itIsNotLive() {
        ShareStore store = Stores.holding(0, 1, 61);
        store.fail(3);
        Check.due("failed", store.rebuild(3, ALL), NO);
        store.back(3);
        Check.due("back", store.rebuild(3, ALL), 0);
        store.fail(3);
        store.wipe(3);
        Check.due("wiped, so live", store.rebuild(3, ALL), 24);
    }

    static void promise17_sevenHelpersAreFew() {
        ShareStore store = Stores.holding(0, 1, 61);
        store.wipe(0);
        Check.due("seven told", store.rebuild(0, 0xFE), FEW);
        Check.due("eight told", store.rebuild(0, 0x1FE), 24);
    }

    static void promise17_sevenFreshOnesAreFew() {
        ShareStore store = Stores.holding(0, 1, 61);
        Stores.wipe(store, 0, 1, 2, 3);
        store.fail(4);
        Check.due("seven are fresh", store.rebuild(0, ALL), FEW);
        store.back(4);
        Check.due("eight are fresh", store.rebuild(0, ALL), 24);
    }

    static void promise17_fewForOneOfTheObjectsIsEnoughToRefuse() {
        for (int object = 0; object < 6; object++) {
            int one = object;
            Check.refused("seven for object " + one, () -> eightFor(one), s -> s.rebuild(11, 0xFFE), FEW);
            Check.due("eight for object " + one, eightFor(one).rebuild(11, 0xFFF), 8 * 12);
        }
    }

    /** Node 11 has lost six objects; nodes 0 .. 7 are fresh for one of them, 0 .. 10 for the others. */
    private static ShareStore eightFor(int object) {
        ShareStore store = new ShareStore();
        for (int one = 0; one < 6; one++) {
            Stores.put(store, one, one, 31);
        }
        Stores.fail(store, 8, 9, 10);
        Stores.put(store, object, 9, 35);
        Stores.back(store, 8, 9, 10);
        store.wipe(11);
        return store;
    }

    static void promise17_withoutContentsNoHelpersAreAsked() {
        ShareStore store = Stores.holding(0, 1, 61);
        store.remove(1);
        store.wipe(6);
        Check.due("few for object 0", store.rebuild(6, 0), FEW);
        store.remove(0);
        store.wipe(6);
        Check.due("both are removed", store.rebuild(6, 0), 0);
        Check.due("object 0", store.record(6, 0, 0), 2);
        Check.due("object 1", store.record(6, 1, 0), 1);
    }

    static void promise17_anOpenObjectNeedsNoHelpers() {
        ShareStore store = Stores.holding(0, 1, 61);
        store.wipe(6);
        Stores.cutPut(store, 0, 2, 61, 0);
        Check.due("rebuild", store.rebuild(6, 0), 0);
        store.settle(0);
        Check.due("settled", store.rebuild(6, 0), FEW);
    }

    /** Node 7 has kept one block of object 5, which was removed; the others have 32 blocks, and those of object 4. */
    private static ShareStore returning(int bytesOf4) {
        ShareStore store = Stores.holding(5, 0, 1);
        store.fail(7);
        store.remove(5);
        for (int object = 0; object < 5; object++) {
            Stores.put(store, object, object, object < 4 ? 240 : bytesOf4);
        }
        store.back(7);
        return store;
    }

    static void promise17_fortyBlocksAtSomeTimeAreNotTooMany() {
        ShareStore store = returning(210);
        Check.due("rebuild", store.rebuild(7, ALL), 8 * 39);
        Check.due("behind object 5", store.free(7), 1);
        store = returning(211);
        store.wipe(7);
        Check.due("without the old block", store.rebuild(7, ALL), 8 * 40);
        Check.due("none free", store.free(7), 0);
        Stores.dueShares("the last", store, 7, 4, 4, 211);
    }

    static void promise17_fortyOneAtSomeTimeAreFullThoughTheyWouldEndAtForty() {
        ShareStore store = returning(211);
        Check.due("object 5 comes last", store.rebuild(7, ALL), FULL);
        Check.refused("rebuild(7)", () -> returning(211), s -> s.rebuild(7, ALL), FULL);
    }

    static void promise17_theRecordGivenUpMakesRoom() {
        ShareStore store = Stores.crammed();
        store.fail(7);
        store.remove(2);
        Stores.put(store, 2, 9, 220);
        store.back(7);
        Check.due("none free before", store.free(7), 0);
        Check.due("rebuild", store.rebuild(7, ALL), 64);
        Check.due("none free behind it", store.free(7), 0);
        Stores.dueRecord("the new one", store, 7, 2, 3, 220, 8, NONE, NONE, NONE);
    }

    static void promise17_whatAnEarlierObjectGivesUpMakesRoomForALaterOne() {
        ShareStore store = Stores.crammed();
        store.fail(7);
        store.remove(0);
        Stores.put(store, 5, 9, 220);
        store.back(7);
        Check.due("object 0 comes first", store.rebuild(7, ALL), 64);
        Check.due("block of object 5", store.block(7, 5, 0, false), 0);
        Check.due("none free", store.free(7), 0);
    }

    static void promise17_whatIsOpenTakesUpRoomToo() {
        ShareStore store = withOpen(210);
        Check.due("1 block of its record, 7 of its shadow, 32", store.rebuild(7, ALL), 8 * 32);
        Check.due("none free", store.free(7), 0);
        Check.refused("1 and 8 and 32", () -> withOpen(240), s -> s.rebuild(7, ALL), FULL);
    }

    /** Node 7 has a record and a shadow of object 5, which is open, and has to get 32 blocks of objects 0 .. 3. */
    private static ShareStore withOpen(int bytes) {
        ShareStore store = Stores.holding(5, 0, 1);
        store.fail(7);
        store.remove(5);
        for (int object = 0; object < 4; object++) {
            Stores.put(store, object, object, 240);
        }
        store.back(7);
        Stores.cutPut(store, 5, 5, bytes, 12);
        return store;
    }

    static void promise17_anOpenObjectNeedsNoRoom() {
        ShareStore store = Stores.holding(5, 0, 240);
        store.fail(7);
        store.remove(5);
        for (int object = 0; object < 5; object++) {
            Stores.put(store, object, object, 240);
        }
        store.back(7);
        Stores.cutRemove(store, 4, 0);
        Stores.cutRemove(store, 5, 0);
        Check.due("8 of its old record, which stays, and 32", store.rebuild(7, ALL), 8 * 32);
        Check.due("none free", store.free(7), 0);
        Check.due("object 4 is left", store.record(7, 4, 0), NONE);
    }

    static void promise17_aRecordWithoutANewestVersionKeepsItsRoom() {
        ShareStore store = withoutNewest(4);
        Check.due("8 of its old record, which stays, and 32", store.rebuild(7, ALL), 8 * 32);
        Check.due("none free", store.free(7), 0);
        Stores.dueRecord("it stays", store, 7, 0, 1, 240, 8, NONE, NONE, NONE);
        Check.refused("8 and 40", () -> withoutNewest(5), s -> s.rebuild(7, ALL), FULL);
    }

    /** Node 7 alone of the live ones has a record of object 0; the others have objects 1 up to a last one. */
    private static ShareStore withoutNewest(int last) {
        ShareStore store = Stores.holding(0, 0, 240);
        Stores.fail(store, 0, 1, 7);
        Stores.wipe(store, 2, 3, 4, 5, 6, 8, 9, 10, 11);
        for (int object = 1; object <= last; object++) {
            Stores.put(store, object, object, 240);
        }
        store.back(7);
        return store;
    }

    public static void main(String[] args) throws ReflectiveOperationException {
        Check.runTerms(RebuildingTest.class);
        Check.runPromises(RebuildingTest.class, 17, 17);
        Check.finish();
    }
}
