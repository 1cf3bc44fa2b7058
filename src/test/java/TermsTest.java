/** What the document says under "Terms" of the field, of stripes, objects, versions, blocks and messages. */
public final class TermsTest {
    private static final int NONE = ShareStore.NONE, BAD = ShareStore.BAD;
    private static final int ALL = Stores.ALL;

    // ---- the field

    static void terms_productsGoModulo285() {
        ShareStore store = new ShareStore();
        Check.due("times(2, 127): no carry", store.times(2, 127), 254);
        Check.due("times(2, 128): a carry", store.times(2, 128), 29);
        Check.due("times(16, 16)", store.times(16, 16), 29);
        Check.due("times(2, 142)", store.times(2, 142), 1);
    }

    static void terms_sumsAreXor() {
        ShareStore store = new ShareStore();
        for (int b = 0; b < 256; b += 15) {
            Check.due("(3 + 5) " + b, store.times(6, b), store.times(3, b) ^ store.times(5, b));
        }
        int[] contents = new int[30];
        contents[0] = 255;
        contents[1] = 170;
        Stores.feed(store, contents);
        store.put(0);
        Check.due("node 0 adds up its column", store.byteOf(0, 0, 0), 85);
    }

    static void terms_nodesAre0To11() {
        ShareStore store = new ShareStore();
        Check.due("free(-1)", store.free(-1), BAD);
        Check.due("free(0)", store.free(0), 40);
        Check.due("free(11)", store.free(11), 40);
        Check.due("free(12)", store.free(12), BAD);
    }

    static void terms_theRowHasEightPowersOfTheNodesNumberAndOne() {
        ShareStore store = new ShareStore();
        for (int node = 0; node < 12; node++) {
            Check.due("p^0 of " + node, store.rowAt(node, 0), 1);
            for (int c = 1; c < 8; c++) {
                Check.due("p^" + c + " of " + node, store.rowAt(node, c),
                    store.times(store.rowAt(node, c - 1), node + 1));
            }
        }
        Check.due("there is no p^8", store.rowAt(0, 8), BAD);
    }

    // ---- stripes

    /** The bytes of a node's share, if of a stripe's bytes only m is not 0. */
    private static ShareStore withByte(int m, int value) {
        ShareStore store = new ShareStore();
        int[] contents = new int[30];
        contents[m] = value;
        Stores.feed(store, contents);
        store.put(0);
        return store;
    }

    private static void dueAtPlace(int m, int row, int column) {
        ShareStore store = withByte(m, 147);
        for (int node = 0; node < 12; node++) {
            for (int c = 0; c < 8; c++) {
                int due = c == column ? Model.power(node, row) : c == row ? Model.power(node, column) : 0;
                Check.due("m" + m + " at byte " + c + " of " + node, store.byteOf(node, 0, c), Model.product(due, 147));
            }
        }
    }

    static void terms_m0StandsAt00() {
        dueAtPlace(0, 0, 0);
    }

    static void terms_m4StandsAt04() {
        dueAtPlace(4, 0, 4);
    }

    static void terms_m5StandsAt11() {
        dueAtPlace(5, 1, 1);
    }

    static void terms_m14StandsAt44() {
        dueAtPlace(14, 4, 4);
    }

    static void terms_m15StandsAt05() {
        dueAtPlace(15, 0, 5);
    }

    static void terms_m17StandsAt07AndM18At15() {
        dueAtPlace(17, 0, 7);
        dueAtPlace(18, 1, 5);
    }

    static void terms_m29StandsAt47() {
        dueAtPlace(29, 4, 7);
    }

    static void terms_theMatrixIsFilledByRowsAndSymmetric() {
        int m = 0;
        for (int row = 0; row < 5; row++) {
            for (int column = row; column < 5; column++) {
                dueAtPlace(m++, row, column);
            }
        }
        for (int row = 0; row < 5; row++) {
            for (int column = 5; column < 8; column++) {
                dueAtPlace(m++, row, column);
            }
        }
        Check.due("bytes of a stripe", m, 30);
    }

    static void terms_whereBothAreFiveOrMoreStandsNought() {
        ShareStore store = new ShareStore();
        int[] contents = new int[30];
        java.util.Arrays.fill(contents, 255);
        Stores.feed(store, contents);
        store.put(0);
        for (int node = 0; node < 12; node++) {
            int sum = 0;
            for (int r = 0; r < 5; r++) {
                sum ^= Model.product(255, Model.power(node, r));
            }
            for (int c = 5; c < 8; c++) {
                Check.due("byte " + c + " of " + node, store.byteOf(node, 0, c), sum);
            }
        }
    }

    static void terms_theSymbolIsTheSumOfTheSharesBytesTimesTheRow() {
        for (int helper = 0; helper < 12; helper++) {
            ShareStore store = Stores.holding(0, 1, 30);
            for (int node = 0; node < 12; node++) {
                int sum = 0;
                for (int c = 0; c < 8; c++) {
                    sum ^= store.times(store.byteOf(helper, 0, c), store.rowAt(node, c));
                }
                Check.due("symbol(" + helper + ", " + node + ", 0, 0)", store.symbol(helper, node, 0, 0), sum);
            }
        }
    }

    static void terms_anyEightHelpersMakeTheLostShareWhatItWas() {
        for (int node = 0; node < 12; node++) {
            for (int helpers = 0; helpers < 4096; helpers++) {
                if (Integer.bitCount(helpers) == 8 && (helpers >> node & 1) == 0) {
                    ShareStore store = Stores.holding(0, node, 31);
                    store.wipe(node);
                    String call = "rebuild(" + node + ", " + helpers + ")";
                    Check.due(call, store.rebuild(node, helpers), 16);
                    Stores.dueShares(call, store, node, 0, node, 31);
                }
            }
        }
    }

    // ---- objects, versions, blocks

    static void terms_objectsAre0To5() {
        ShareStore store = new ShareStore();
        Stores.feed(store, 1, 8);
        Check.due("put(-1)", store.put(-1), BAD);
        Check.due("put(6)", store.put(6), BAD);
        Check.due("put(5)", store.put(5), 1);
        Stores.feed(store, 1, 8);
        Check.due("put(0)", store.put(0), 1);
    }

    static void terms_contentsHave1To240Bytes() {
        for (int bytes : new int[] {1, 2, 239, 240}) {
            ShareStore store = Stores.holding(3, 2, bytes);
            Check.due("get of " + bytes, store.get(3, ALL), bytes);
            Stores.dueGot("get of " + bytes, store, 2, bytes);
        }
        Check.due("no bytes", new ShareStore().put(3), ShareStore.EMPTY);
    }

    static void terms_stripesHave30Bytes() {
        int[][] bytesAndStripes = {{1, 1}, {29, 1}, {30, 1}, {31, 2}, {59, 2}, {60, 2}, {61, 3}, {210, 7}, {211, 8},
            {239, 8}, {240, 8}};
        for (int[] one : bytesAndStripes) {
            ShareStore store = Stores.holding(0, 1, one[0]);
            Check.due("stripes of " + one[0], store.record(0, 0, 2), one[1]);
            Check.due("blocks of " + one[0], store.free(0), 40 - one[1]);
        }
    }

    static void terms_theLastStripeIsFilledUpWithNought() {
        ShareStore store = Stores.holding(0, 1, 240);
        Stores.put(store, 1, 2, 31);
        Stores.dueShares("behind longer contents", store, 4, 1, 2, 31);
        int[] two = {0, 0};
        Stores.feed(store, two);
        store.put(2);
        for (int c = 0; c < 8; c++) {
            Check.due("of noughts alone", store.byteOf(11, store.block(11, 2, 0, false), c), 0);
        }
    }

    static void terms_versionsAreCountedForEachObject() {
        ShareStore store = Stores.holding(0, 1, 5);
        Check.due("second of 0", Stores.put(store, 0, 1, 5), 2);
        Check.due("first of 5", Stores.put(store, 5, 1, 5), 1);
        Check.due("third of 0", store.remove(0), 3);
        Check.due("second of 5", store.remove(5), 2);
    }

    static void terms_aCutPutBeginsAVersion() {
        ShareStore store = new ShareStore();
        Check.due("behind no message", Stores.cutPut(store, 0, 1, 5, 0), 0);
        store.settle(0);
        Check.due("the next", Stores.put(store, 0, 1, 5), 2);
        Stores.cutRemove(store, 0, 12);
        store.settle(0);
        Check.due("the next but one", store.remove(0), 4);
    }

    static void terms_aRefusedPutBeginsNoVersion() {
        ShareStore store = new ShareStore();
        store.put(0);
        Stores.fail(store, 0, 1, 2, 3);
        store.remove(0);
        Stores.feed(store, 1, 5);
        store.put(0);
        store.back(0);
        Check.due("put(0)", store.put(0), 1);
    }

    static void terms_blocksAre0To39() {
        ShareStore store = Stores.crammed();
        Check.due("the first", store.block(6, 0, 0, false), 0);
        Check.due("the last", store.block(6, 4, 7, false), 39);
        Check.due("all taken", store.free(6), 0);
        Check.due("byteOf(6, 39, 7)", store.byteOf(6, 39, 7), Model.shareByte(6, Stores.contents(4, 240), 7, 7));
        Check.due("byteOf(6, 40, 7)", store.byteOf(6, 40, 7), BAD);
    }

    static void terms_aRecordHasABlockForEachStripe() {
        ShareStore store = Stores.holding(2, 1, 61);
        Stores.dueRecord("61 bytes", store, 9, 2, 1, 61, 3, NONE, NONE, NONE);
        for (int s = 0; s < 4; s++) {
            Check.due("block of stripe " + s, store.block(9, 2, s, false), s < 3 ? s : NONE);
        }
    }

    static void terms_aShadowStandsBesideTheRecord() {
        ShareStore store = Stores.holding(2, 1, 61);
        Stores.cutPut(store, 2, 2, 31, 12);
        Stores.dueRecord("both", store, 9, 2, 1, 61, 3, 2, 31, 2);
        Check.due("first block of the shadow", store.block(9, 2, 0, true), 3);
        Check.due("second block of the shadow", store.block(9, 2, 1, true), 4);
        Check.due("first block of the record", store.block(9, 2, 0, false), 0);
        Check.due("free(9)", store.free(9), 35);
    }

    static void terms_newBlocksAreTheLeastThatAreFreeStripeByStripe() {
        ShareStore store = new ShareStore();
        for (int object = 0; object < 4; object++) {
            Stores.put(store, object, object, 60);
        }
        store.remove(0);
        store.remove(2);
        Check.due("put", Stores.put(store, 5, 9, 180), 1);
        int[] due = {0, 1, 4, 5, 8, 9};
        for (int s = 0; s < due.length; s++) {
            for (int node = 0; node < 12; node++) {
                Check.due("block of " + s + " at " + node, store.block(node, 5, s, false), due[s]);
            }
        }
        Stores.dueShares("in the gaps", store, 3, 5, 9, 180);
    }

    static void terms_whatIsGivenUpIsFreeAtOnce() {
        ShareStore store = Stores.holding(0, 1, 60);
        Check.due("the old record at the flip", Stores.put(store, 0, 2, 30), 2);
        Check.due("its blocks", store.free(5), 39);
        Check.due("no byte of them", store.byteOf(5, 0, 0), NONE);
        Stores.put(store, 1, 3, 30);
        Check.due("taken next", store.block(5, 1, 0, false), 0);
        Stores.cutPut(store, 2, 4, 30, 12);
        Check.due("a shadow", store.block(5, 2, 0, true), 1);
        store.settle(2);
        Check.due("given up", store.byteOf(5, 1, 0), NONE);
        Stores.put(store, 3, 5, 30);
        Check.due("taken again", store.block(5, 3, 0, false), 1);
    }

    // ---- the newest version

    static void terms_fiveLiveNodesMakeTheNewestVersion() {
        ShareStore store = new ShareStore();
        Stores.cutPut(store, 0, 1, 30, 17);
        Check.due("five records", store.version(0), 1);
        store.fail(4);
        Check.due("four live ones", store.version(0), 0);
        store.back(4);
        Check.due("five again", store.version(0), 1);
        store.wipe(0);
        Check.due("four records", store.version(0), 0);
    }

    static void terms_fourRecordsMakeNone() {
        ShareStore store = new ShareStore();
        Stores.cutPut(store, 0, 1, 30, 16);
        Check.due("version(0)", store.version(0), 0);
    }

    static void terms_shadowsMakeNone() {
        ShareStore store = new ShareStore();
        Stores.cutPut(store, 0, 1, 30, 12);
        Check.due("version(0)", store.version(0), 0);
    }

    static void terms_theGreatestOfTwoIsTheNewest() {
        ShareStore store = Stores.holding(0, 1, 30);
        Stores.cutPut(store, 0, 2, 31, 17);
        Check.due("seven have 1, five have 2", store.version(0), 2);
        Stores.fail(store, 0);
        Check.due("seven have 1, four have 2", store.version(0), 1);
        Stores.fail(store, 5, 6, 7);
        Check.due("four have each", store.version(0), 0);
    }

    static void terms_freshIsALiveNodeWithTheNewestVersion() {
        ShareStore store = Stores.holding(0, 1, 30);
        Stores.cutPut(store, 0, 2, 31, 17);
        for (int node = 0; node < 12; node++) {
            Check.due("fresh(" + node + ", 0)", store.fresh(node, 0), node < 5 ? 1 : 0);
        }
        store.fail(2);
        for (int node = 0; node < 12; node++) {
            Check.due("behind fail(2), fresh(" + node + ", 0)", store.fresh(node, 0), node < 5 ? 0 : 1);
        }
    }

    // ---- messages

    /** That behind n messages the live nodes have, by numbers, what they are due to have. */
    private static void dueBehind(int n, int... failed) {
        ShareStore store = new ShareStore();
        Stores.fail(store, failed);
        int live = 12 - failed.length;
        Check.due("cut behind " + n, Stores.cutPut(store, 0, 1, 31, n), n < 2 * live ? 0 : 1);
        int rank = 0;
        for (int node = 0; node < 12; node++) {
            boolean isLive = store.fail(node) == 1;
            boolean flipped = isLive && rank < n - live;
            boolean reached = isLive && rank < n;
            rank += isLive ? 1 : 0;
            Check.due(n + " messages: record of " + node, store.record(node, 0, 0), flipped ? 1 : NONE);
            Check.due(n + " messages: shadow of " + node, store.record(node, 0, 3), reached && !flipped ? 1 : NONE);
            Check.due(n + " messages: free(" + node + ")", store.free(node), reached ? 38 : 40);
        }
        Check.due("messages", store.count(2), Math.min(n, 2 * live));
    }

    static void terms_eachLiveNodeGetsItsShadowByNumbersThenItsFlip() {
        for (int n = 0; n < 24; n++) {
            dueBehind(n);
        }
    }

    static void terms_failedNodesGetNeither() {
        for (int n = 0; n < 24; n++) {
            dueBehind(n, 0, 6, 11);
        }
    }

    static void terms_removesGoByMessagesToo() {
        ShareStore store = Stores.holding(0, 1, 31);
        Check.due("cut behind 13", Stores.cutRemove(store, 0, 13), 0);
        Stores.dueRecord("flipped", store, 0, 0, 2, 0, 0, NONE, NONE, NONE);
        Stores.dueRecord("not yet", store, 1, 0, 1, 31, 2, 2, 0, 0);
        Check.due("messages", store.count(2), 24 + 13);
    }

    static void terms_theFlipGivesTheOldRecordUp() {
        ShareStore store = Stores.holding(0, 1, 31);
        Stores.cutPut(store, 0, 2, 91, 13);
        Stores.dueRecord("flipped", store, 0, 0, 2, 91, 4, NONE, NONE, NONE);
        Check.due("free(0)", store.free(0), 36);
        Check.due("block 0 of 0", store.byteOf(0, 0, 0), NONE);
        Check.due("free(1)", store.free(1), 34);
        Stores.dueShares("flipped", store, 0, 0, 2, 91);
    }

    static void terms_oneLessThanThereAreCuts() {
        ShareStore store = new ShareStore();
        Check.due("behind 23 of 24", Stores.cutPut(store, 0, 1, 31, 23), 0);
        Check.due("open", store.open(0), 1);
        Stores.fail(store, 1, 2, 3);
        Check.due("behind 17 of 18", Stores.cutPut(store, 1, 1, 31, 17), 0);
        Check.due("open", store.open(1), 1);
    }

    static void terms_asManyAsThereAreCutsNot() {
        ShareStore store = new ShareStore();
        Stores.fail(store, 1, 2, 3);
        Check.due("behind 18 of 18", Stores.cutPut(store, 0, 1, 31, 18), 1);
        Check.due("open", store.open(0), 0);
        Check.due("behind 23 of 18", Stores.cutPut(store, 0, 1, 31, 23), 2);
        Check.due("open", store.open(0), 0);
    }

    static void terms_cutBehindNoMessageItIsOpen() {
        ShareStore store = new ShareStore();
        Check.due("put", Stores.cutPut(store, 0, 1, 31, 0), 0);
        Check.due("open", store.open(0), 1);
        Check.due("messages", store.count(2), 0);
    }

    static void terms_anObjectIsOpenTillItIsSettled() {
        ShareStore store = Stores.holding(0, 1, 31);
        Stores.cutPut(store, 0, 2, 31, 13);
        for (int node = 0; node < 12; node++) {
            store.fail(node);
            store.back(node);
            store.wipe(node);
            store.rebuild(node, ALL);
        }
        Check.due("open", store.open(0), 1);
        store.settle(0);
        Check.due("settled", store.open(0), 0);
    }

    // ---- settling

    static void terms_settlingTakesWhatOneLiveNodeHasAsRecord() {
        ShareStore store = Stores.holding(0, 1, 31);
        Stores.cutPut(store, 0, 2, 91, 13);
        Check.due("settle", store.settle(0), 1);
        for (int node = 0; node < 12; node++) {
            Stores.dueRecord("taken", store, node, 0, 2, 91, 4, NONE, NONE, NONE);
            Check.due("the old one is given up at " + node, store.free(node), 36);
        }
    }

    static void terms_settlingTakesWhatOneFailedNodeHasAsRecord() {
        ShareStore store = Stores.holding(0, 1, 31);
        Stores.cutPut(store, 0, 2, 91, 13);
        store.fail(0);
        Check.due("settle", store.settle(0), 1);
        Check.due("version", store.version(0), 2);
        Stores.dueRecord("taken", store, 11, 0, 2, 91, 4, NONE, NONE, NONE);
    }

    static void terms_settlingGivesUpWhatNoNodeHasAsRecord() {
        ShareStore store = Stores.holding(0, 1, 31);
        Stores.cutPut(store, 0, 2, 91, 12);
        Check.due("settle", store.settle(0), 0);
        for (int node = 0; node < 12; node++) {
            Stores.dueRecord("not taken", store, node, 0, 1, 31, 2, NONE, NONE, NONE);
            Check.due("blocks of " + node, store.free(node), 38);
        }
    }

    static void terms_settlingForgetsARecordThatWasWiped() {
        ShareStore store = Stores.holding(0, 1, 31);
        Stores.cutPut(store, 0, 2, 91, 13);
        store.wipe(0);
        Check.due("settle", store.settle(0), 0);
        Check.due("version", store.version(0), 1);
    }

    static void terms_settlingLooksAtTheVersionNotAtAnyRecord() {
        ShareStore store = Stores.holding(0, 1, 31);
        Stores.cutPut(store, 0, 2, 91, 4);
        Check.due("settle", store.settle(0), 0);
        Stores.cutRemove(store, 0, 4);
        Check.due("settle of a remove", store.settle(0), 0);
    }

    static void terms_settlingFlipsNoFailedNode() {
        ShareStore store = Stores.holding(0, 1, 31);
        Stores.cutPut(store, 0, 2, 91, 13);
        store.fail(7);
        Check.due("settle", store.settle(0), 1);
        Stores.dueRecord("failed", store, 7, 0, 1, 31, 2, 2, 91, 4);
        Check.due("free(7)", store.free(7), 34);
    }

    static void terms_settlingGivesUpNoFailedNodesShadow() {
        ShareStore store = Stores.holding(0, 1, 31);
        Stores.cutPut(store, 0, 2, 91, 12);
        store.fail(7);
        Check.due("settle", store.settle(0), 0);
        Stores.dueRecord("failed", store, 7, 0, 1, 31, 2, 2, 91, 4);
        Check.due("its shadow is given up when it comes back", store.back(7), 1);
    }

    static void terms_settlingFlipsOnlyThoseThatHaveTheShadow() {
        ShareStore store = Stores.holding(0, 1, 31);
        store.fail(3);
        Stores.cutPut(store, 0, 2, 91, 12);
        Stores.fail(store, 5);
        Stores.back(store, 3, 5);
        Check.due("settle", store.settle(0), 1);
        Stores.dueRecord("it was failed", store, 3, 0, 1, 31, 2, NONE, NONE, NONE);
        Stores.dueRecord("it came back", store, 5, 0, 1, 31, 2, NONE, NONE, NONE);
        Stores.dueRecord("it was live", store, 4, 0, 2, 91, 4, NONE, NONE, NONE);
    }

    static void terms_settlingGoesByNoMessages() {
        ShareStore store = new ShareStore();
        Stores.cutPut(store, 0, 1, 31, 13);
        store.cut(5);
        store.settle(0);
        Check.due("messages", store.count(2), 13);
        Check.due("the cut told is for a put", store.count(5), 5);
    }

    static void terms_settlingLeavesOtherObjects() {
        ShareStore store = new ShareStore();
        Stores.cutPut(store, 0, 1, 31, 13);
        Stores.cutPut(store, 1, 2, 31, 13);
        Stores.cutPut(store, 2, 3, 31, 12);
        store.settle(1);
        Stores.dueRecord("object 0", store, 5, 0, NONE, NONE, NONE, 1, 31, 2);
        Stores.dueRecord("object 1", store, 5, 1, 1, 31, 2, NONE, NONE, NONE);
        Stores.dueRecord("object 2", store, 5, 2, NONE, NONE, NONE, 1, 31, 2);
        Check.due("open(0)", store.open(0), 1);
        Check.due("open(2)", store.open(2), 1);
    }

    // ---- failing, getting

    static void terms_aNodeThatFailsKeepsWhatItHas() {
        ShareStore store = Stores.holding(0, 1, 31);
        Stores.cutPut(store, 0, 2, 61, 12);
        store.fail(7);
        Stores.dueRecord("failed", store, 7, 0, 1, 31, 2, 2, 61, 3);
        Stores.dueShares("failed", store, 7, 0, 1, 31);
        Check.due("free(7)", store.free(7), 35);
    }

    static void terms_aNodeThatFailsKeepsTheShadowOfAPutThatWasSettled() {
        ShareStore store = new ShareStore();
        Stores.cutPut(store, 0, 1, 61, 12);
        store.fail(7);
        store.settle(0);
        Check.due("put", Stores.put(store, 0, 2, 240), 2);
        Stores.dueRecord("failed", store, 7, 0, NONE, NONE, NONE, 1, 61, 3);
        for (int s = 0; s < 3; s++) {
            for (int c = 0; c < 8; c++) {
                Check.due("byte " + c + " of the shadow's stripe " + s, store.byteOf(7, store.block(7, 0, s, true), c),
                    Model.shareByte(7, Stores.contents(1, 61), s, c));
            }
        }
    }

    static void terms_aNodeThatFailedGetsNoMessages() {
        ShareStore store = Stores.holding(0, 1, 31);
        store.fail(7);
        Check.due("put", Stores.put(store, 0, 2, 61), 2);
        Stores.dueRecord("failed", store, 7, 0, 1, 31, 2, NONE, NONE, NONE);
        Check.due("messages", store.count(2), 24 + 22);
    }

    static void terms_whenItComesBackItsShadowsAreGivenUp() {
        ShareStore store = Stores.holding(0, 1, 31);
        Stores.cutPut(store, 0, 2, 61, 12);
        store.fail(7);
        store.back(7);
        Stores.dueRecord("back", store, 7, 0, 1, 31, 2, NONE, NONE, NONE);
        Check.due("free(7)", store.free(7), 38);
        Check.due("others keep theirs", store.record(6, 0, 3), 2);
    }

    static void terms_gettingTakesOnlyFreshNodes() {
        ShareStore store = Stores.holding(0, 1, 31);
        store.fail(0);
        Stores.put(store, 0, 2, 31);
        store.back(0);
        Stores.wipe(store, 1);
        store.fail(2);
        Check.due("get", store.get(0, 0xFF), 31);
        Stores.dueGot("of 3 .. 7", store, 2, 31);
        Check.due("get by four that are fresh", store.get(0, 0x7F), ShareStore.FEW);
    }

    public static void main(String[] args) throws ReflectiveOperationException {
        Check.runTerms(TermsTest.class);
        Check.finish();
    }
}
