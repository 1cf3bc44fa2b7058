import java.util.ArrayList;
import java.util.List;
import java.util.function.Supplier;

/**
 * All that can be seen of a store. It is looked at in pieces, each in a store made anew, since an object is good for
 * 512 calls alone; a scene may use some 180 of them.
 */
final class Snapshot {
    private static final int GOT_LOOKS = 40;
    private static final int CONTENT_BYTES = 240;

    private final List<String> answers = new ArrayList<>();

    private Snapshot() {
    }

    static List<String> of(Supplier<ShareStore> scene) {
        Snapshot all = new Snapshot();
        all.lookAtTheWhole(scene.get());
        for (int node = 0; node < 12; node++) {
            all.lookAtHoldings(scene.get(), node);
            all.lookAtBytes(scene.get(), node, 0, 20);
            all.lookAtBytes(scene.get(), node, 20, 40);
        }
        all.lookAhead(scene.get());
        return all.answers;
    }

    private void add(String call, long answer) {
        answers.add(call + " is " + answer);
    }

    private void lookAtTheWhole(ShareStore store) {
        add("digest()", store.digest());
        for (int what = 0; what < 6; what++) {
            add("count(" + what + ")", store.count(what));
        }
        for (int object = 0; object < 6; object++) {
            add("version(" + object + ")", store.version(object));
            add("open(" + object + ")", store.open(object));
        }
        for (int node = 0; node < 12; node++) {
            add("sent(" + node + ")", store.sent(node));
            add("free(" + node + ")", store.free(node));
            add("fresh(" + node + ", 0)", store.fresh(node, 0));
        }
        for (int i = 0; i < GOT_LOOKS; i++) {
            add("got(" + i + ")", store.got(i));
        }
    }

    private void lookAtHoldings(ShareStore store, int node) {
        for (int object = 0; object < 6; object++) {
            for (int what = 0; what < 6; what++) {
                add("record(" + node + ", " + object + ", " + what + ")", store.record(node, object, what));
            }
            for (int s = 0; s < 8; s++) {
                add("block(" + node + ", " + object + ", " + s + ")", store.block(node, object, s, false));
                add("shadow's block(" + node + ", " + object + ", " + s + ")", store.block(node, object, s, true));
            }
        }
    }

    private void lookAtBytes(ShareStore store, int node, int first, int end) {
        for (int block = first; block < end; block++) {
            for (int i = 0; i < 8; i++) {
                add("byteOf(" + node + ", " + block + ", " + i + ")", store.byteOf(node, block, i));
            }
        }
    }

    /** What only later calls show: the bytes of the tape, and what the next versions are. */
    private void lookAhead(ShareStore store) {
        for (int node = 0; node < 12; node++) {
            add("later back(" + node + ")", store.back(node));
        }
        for (int object = 0; object < 6; object++) {
            add("later settle(" + object + ")", store.settle(object));
        }
        add("later put(0)", store.put(0));
        add("later settle(0)", store.settle(0));
        add("later get(0, 4095)", store.get(0, Stores.ALL));
        for (int i = 0; i < CONTENT_BYTES; i++) {
            add("later got(" + i + ")", store.got(i));
        }
        for (int object = 0; object < 6; object++) {
            add("later remove(" + object + ")", store.remove(object));
        }
    }
}
