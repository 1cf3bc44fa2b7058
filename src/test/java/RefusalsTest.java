import java.util.function.Supplier;

/**
 * "Refused, changing nothing, the first of: BAD, NO, FEW, FULL, EMPTY; then NOUGHT." Each test's scene gives two
 * reasons or more, wherever there can be two.
 */
public final class RefusalsTest {
    private static final int BAD = ShareStore.BAD, NO = ShareStore.NO, FEW = ShareStore.FEW, FULL = ShareStore.FULL;
    private static final int EMPTY = ShareStore.EMPTY, NONE = ShareStore.NONE;
    private static final int ALL = Stores.ALL;
    private static final int[] NOT_TO_5 = {-1, 6, Integer.MIN_VALUE, Integer.MAX_VALUE};
    private static final int[] NOT_TO_11 = {-1, 12, Integer.MIN_VALUE, Integer.MAX_VALUE};

    /** Every block taken, bytes on the tape, a cut told. */
    private static ShareStore full() {
        ShareStore store = Stores.crammed();
        Stores.feed(store, 5, 3);
        store.cut(5);
        return store;
    }

    private static ShareStore fullWithEight() {
        ShareStore store = full();
        Stores.fail(store, 1, 3, 5, 7);
        return store;
    }

    /** Object 0 open, no block free at nodes 0 .. 6, bytes on the tape. */
    private static ShareStore fullAndOpen() {
        ShareStore store = new ShareStore();
        for (int object = 1; object < 5; object++) {
            Stores.put(store, object, object, 240);
        }
        Stores.cutPut(store, 0, 6, 240, 7);
        Stores.feed(store, 5, 3);
        return store;
    }

    /** Node 7 came back with a record that object 5 no longer has, and has no room for what the others have. */
    private static ShareStore withoutRoomToRebuild7() {
        ShareStore store = Stores.holding(5, 0, 1);
        store.fail(7);
        store.remove(5);
        for (int object = 0; object < 5; object++) {
            Stores.put(store, object, object, object < 4 ? 240 : 211);
        }
        store.back(7);
        return store;
    }

    // ---- the field

    static void terms_overBadBeforeNought() {
        Check.refused("over(256, 0)", Stores::busy, s -> s.over(256, 0), BAD);
        Check.refused("over(-1, 0)", Stores::busy, s -> s.over(-1, 0), BAD);
        Check.refused("over(255, 0)", Stores::busy, s -> s.over(255, 0), ShareStore.NOUGHT);
    }

    static void terms_timesAndRowAtBad() {
        Check.refused("times(256, 0)", Stores::busy, s -> s.times(256, 0), BAD);
        Check.refused("rowAt(12, 8)", Stores::busy, s -> s.rowAt(12, 8), BAD);
    }

    // ---- contents

    static void terms_feedBadBeforeFull() {
        Supplier<ShareStore> scene = () -> {
            ShareStore store = Stores.holding(0, 1, 31);
            Stores.feed(store, 2, 240);
            return store;
        };
        Check.refused("feed(1, 0)", scene, s -> s.feed(1L, 0), BAD);
        Check.refused("feed(1, 9)", scene, s -> s.feed(1L, 9), BAD);
        Check.refused("feed(1, most)", scene, s -> s.feed(1L, Integer.MAX_VALUE), BAD);
        Check.refused("feed(1, 1)", scene, s -> s.feed(1L, 1), FULL);
        Check.refused("feed(1, 8)", scene, s -> s.feed(1L, 8), FULL);
    }

    static void terms_feedFullTakesNoByteThatWouldFit() {
        Supplier<ShareStore> scene = () -> {
            ShareStore store = new ShareStore();
            Stores.feed(store, 2, 233);
            return store;
        };
        Check.refused("feed(1, 8)", scene, s -> s.feed(1L, 8), FULL);
    }

    static void terms_cutBad() {
        Check.refused("cut(-1)", Stores::busy, s -> s.cut(-1), BAD);
        Check.refused("cut(24)", Stores::busy, s -> s.cut(24), BAD);
    }

    static void terms_putBadBeforeAllElse() {
        for (int object : NOT_TO_5) {
            Check.refused("few live, put(" + object + ")", Stores::busyWithEight, s -> s.put(object), BAD);
            Check.refused("no room, put(" + object + ")", RefusalsTest::full, s -> s.put(object), BAD);
            Check.refused("no tape, put(" + object + ")", Stores::crammed, s -> s.put(object), BAD);
        }
    }

    static void terms_putNoBeforeFew() {
        Check.refused("put(3)", Stores::busyWithEight, s -> s.put(3), NO);
    }

    static void terms_putNoBeforeFull() {
        Check.refused("put(0)", RefusalsTest::fullAndOpen, s -> s.put(0), NO);
        Check.refused("put(5)", RefusalsTest::fullAndOpen, s -> s.put(5), FULL);
    }

    static void terms_putNoBeforeEmpty() {
        Supplier<ShareStore> scene = () -> {
            ShareStore store = new ShareStore();
            Stores.cutPut(store, 4, 1, 40, 15);
            return store;
        };
        Check.refused("put(4)", scene, s -> s.put(4), NO);
    }

    static void terms_putFewBeforeFull() {
        Check.refused("put(5)", RefusalsTest::fullWithEight, s -> s.put(5), FEW);
    }

    static void terms_putFewBeforeEmpty() {
        Supplier<ShareStore> scene = () -> {
            ShareStore store = Stores.holding(0, 1, 31);
            Stores.fail(store, 0, 1, 2, 3);
            store.cut(4);
            return store;
        };
        Check.refused("put(0)", scene, s -> s.put(0), FEW);
    }

    static void terms_putFullAlone() {
        Check.refused("put(5)", RefusalsTest::full, s -> s.put(5), FULL);
        Check.refused("put(0), whose old record would go", RefusalsTest::full, s -> s.put(0), FULL);
    }

    static void terms_putEmptyAloneSinceNoStripesFindRoomAnywhere() {
        Check.refused("put(0)", Stores::crammed, s -> s.put(0), EMPTY);
        Check.refused("put(5)", Stores::crammed, s -> s.put(5), EMPTY);
    }

    static void terms_removeBadBeforeFew() {
        for (int object : NOT_TO_5) {
            Check.refused("remove(" + object + ")", Stores::busyWithEight, s -> s.remove(object), BAD);
        }
    }

    static void terms_removeNoBeforeFew() {
        Check.refused("remove(3)", Stores::busyWithEight, s -> s.remove(3), NO);
        Check.refused("remove(3) with enough", Stores::busy, s -> s.remove(3), NO);
    }

    static void terms_removeFewAlone() {
        Check.refused("remove(0)", Stores::busyWithEight, s -> s.remove(0), FEW);
    }

    static void terms_settleBadBeforeNo() {
        for (int object : NOT_TO_5) {
            Check.refused("settle(" + object + ")", Stores::busy, s -> s.settle(object), BAD);
        }
        Check.refused("settle(0)", Stores::busy, s -> s.settle(0), NO);
    }

    static void terms_getBadBeforeFew() {
        for (int object : NOT_TO_5) {
            Check.refused("get(" + object + ", 0)", Stores::busy, s -> s.get(object, 0), BAD);
        }
    }

    static void terms_getNoBeforeFew() {
        Check.refused("get(3, 0)", Stores::busy, s -> s.get(3, 0), NO);
    }

    static void terms_getNoBeforeEmpty() {
        Supplier<ShareStore> scene = () -> {
            ShareStore store = Stores.busy();
            store.remove(2);
            return store;
        };
        Check.refused("get(2, ALL)", scene, s -> s.get(2, ALL), NO);
    }

    static void terms_getFewBeforeEmpty() {
        Check.refused("get(2, 15)", Stores::busy, s -> s.get(2, 15), FEW);
        Check.refused("get(2, 31)", Stores::busy, s -> s.get(2, 31), EMPTY);
    }

    static void terms_versionAndOpenBad() {
        for (int object : NOT_TO_5) {
            Check.refused("version(" + object + ")", Stores::busy, s -> s.version(object), BAD);
            Check.refused("open(" + object + ")", Stores::busy, s -> s.open(object), BAD);
        }
    }

    // ---- nodes

    static void terms_failBadBeforeNo() {
        for (int node : NOT_TO_11) {
            Check.refused("fail(" + node + ")", Stores::busy, s -> s.fail(node), BAD);
        }
        Check.refused("fail(7)", Stores::busy, s -> s.fail(7), NO);
    }

    static void terms_backBadBeforeNo() {
        for (int node : NOT_TO_11) {
            Check.refused("back(" + node + ")", Stores::busy, s -> s.back(node), BAD);
        }
        Check.refused("back(8), with a shadow", Stores::busy, s -> s.back(8), NO);
    }

    static void terms_wipeBad() {
        for (int node : NOT_TO_11) {
            Check.refused("wipe(" + node + ")", Stores::busy, s -> s.wipe(node), BAD);
        }
    }

    static void terms_rebuildBadBeforeAllElse() {
        for (int node : NOT_TO_11) {
            Check.refused("rebuild(" + node + ", 0)", Stores::busy, s -> s.rebuild(node, 0), BAD);
        }
    }

    static void terms_rebuildNoBeforeFew() {
        Supplier<ShareStore> scene = () -> {
            ShareStore store = Stores.busy();
            store.fail(9);
            return store;
        };
        Check.refused("rebuild(9, 0)", scene, s -> s.rebuild(9, 0), NO);
    }

    static void terms_rebuildNoBeforeFull() {
        Supplier<ShareStore> scene = () -> {
            ShareStore store = withoutRoomToRebuild7();
            store.fail(7);
            return store;
        };
        Check.refused("rebuild(7, ALL)", scene, s -> s.rebuild(7, ALL), NO);
    }

    static void terms_rebuildFewBeforeFull() {
        Check.refused("by seven", RefusalsTest::withoutRoomToRebuild7, s -> s.rebuild(7, 127), FEW);
        Check.refused("by all", RefusalsTest::withoutRoomToRebuild7, s -> s.rebuild(7, ALL), FULL);
    }

    static void terms_rebuildFewAlone() {
        Check.refused("rebuild(9, 0x7F)", Stores::busy, s -> s.rebuild(9, 0x7F), FEW);
    }

    static void terms_questionsBad() {
        Check.refused("fresh(12, 0)", Stores::busy, s -> s.fresh(12, 0), BAD);
        Check.refused("fresh(0, 6)", Stores::busy, s -> s.fresh(0, 6), BAD);
        Check.refused("sent(12)", Stores::busy, s -> s.sent(12), BAD);
        Check.refused("free(12)", Stores::busy, s -> s.free(12), BAD);
        Check.refused("record(0, 0, 6)", Stores::busy, s -> s.record(0, 0, 6), BAD);
        Check.refused("count(6)", Stores::busy, s -> s.count(6), BAD);
    }

    static void terms_blockBadBeforeNone() {
        Check.refused("block(12, 0, 99, false)", Stores::busy, s -> s.block(12, 0, 99, false), BAD);
        Check.refused("block(0, 6, 99, true)", Stores::busy, s -> s.block(0, 6, 99, true), BAD);
        Check.refused("block(0, 0, 99, true)", Stores::busy, s -> s.block(0, 0, 99, true), NONE);
    }

    static void terms_byteOfBadBeforeNone() {
        Check.refused("byteOf(12, 39, 0)", Stores::busy, s -> s.byteOf(12, 39, 0), BAD);
        Check.refused("byteOf(0, 39, 8)", Stores::busy, s -> s.byteOf(0, 39, 8), BAD);
        Check.refused("byteOf(0, 39, 7)", Stores::busy, s -> s.byteOf(0, 39, 7), NONE);
    }

    static void terms_symbolBadBeforeNone() {
        Check.refused("symbol(12, 0, 0, 99)", Stores::busy, s -> s.symbol(12, 0, 0, 99), BAD);
        Check.refused("symbol(0, 12, 0, 99)", Stores::busy, s -> s.symbol(0, 12, 0, 99), BAD);
        Check.refused("symbol(0, 0, 6, 99)", Stores::busy, s -> s.symbol(0, 0, 6, 99), BAD);
        Check.refused("symbol(0, 0, 0, 99)", Stores::busy, s -> s.symbol(0, 0, 0, 99), NONE);
    }

    /** Nor does a question that is answered change anything; get() alone changes what was got. */
    static void terms_answersChangeNothing() {
        Check.refused("version(0)", Stores::busy, s -> s.version(0), 1);
        Check.refused("open(3)", Stores::busy, s -> s.open(3), 1);
        Check.refused("fresh(0, 0)", Stores::busy, s -> s.fresh(0, 0), 1);
        Check.refused("record(0, 1, 1)", Stores::busy, s -> s.record(0, 1, 1), 95);
        Check.refused("block(0, 1, 3, false)", Stores::busy, s -> s.block(0, 1, 3, false), 5);
        Check.refused("count(0)", Stores::busy, s -> s.count(0), 11);
        Check.refused("got(94)", Stores::busy, s -> s.got(94), Stores.byteOf(2, 94));
        Check.refused("symbol(1, 2, 1, 0)", Stores::busy, s -> s.symbol(1, 2, 1, 0),
            Model.symbolOf(1, 2, Stores.contents(2, 95), 0));
    }

    public static void main(String[] args) throws ReflectiveOperationException {
        Check.runTerms(RefusalsTest.class);
        Check.finish();
    }
}
