/**
 * A share store of twelve nodes. The words NODE, OBJECT, STRIPE, SHADOW and so on are the document's.
 */
public final class ShareStore {
    public static final int NONE = -1, BAD = -2, NO = -3, FEW = -4, FULL = -5, EMPTY = -6, NOUGHT = -7;

    private static final int NODES = 12, OBJECTS = 6, BLOCKS = 40;
    // One number for what must be alike: bytes of a ROW, of a SHARE and of a BLOCK, and HELPERS of a lost NODE.
    private static final int WIDTH = 8;
    // NODES that give all back; they are as many as the MATRIX has rows before those with zeros at their end.
    private static final int ENOUGH = 5;
    private static final int STRIPE_BYTES = 30, STRIPES = 8, CONTENT_BYTES = 240;
    private static final int LIVE_TO_PUT = 9, CUTS = 24, WORD_BYTES = 8;
    private static final int ELEMENTS = 256, RECORD_NUMBERS = 3;

    private final Coder coder = new Coder();
    private final Node[] nodes = new Node[NODES];
    // The last VERSION begun of each OBJECT: that of the put which is cut, while the OBJECT is OPEN.
    private final int[] begun = new int[OBJECTS];
    private final boolean[] unsettled = new boolean[OBJECTS];
    private final int[] tape = new int[CONTENT_BYTES];
    private int tapeBytes = 0;
    private final int[] gotten = new int[CONTENT_BYTES];
    private int gottenBytes = 0;
    private int cutBehind = NONE;
    private int messages = 0;
    private int symbols = 0;
    // Rows for one call's use, made once since every call counts what it makes.
    private final int[] chosen = new int[WIDTH];
    private final int[] wire = new int[WIDTH];

    public ShareStore() {
        for (int i = 0; i < NODES; i++) {
            nodes[i] = new Node();
        }
    }

    // ---- the field

    public int times(int a, int b) {
        return isElement(a) && isElement(b) ? coder.field.product(a, b) : BAD;
    }

    public int over(int a, int b) {
        if (!isElement(a) || !isElement(b)) {
            return BAD;
        }
        return b == 0 ? NOUGHT : coder.field.quotient(a, b);
    }

    public int rowAt(int node, int c) {
        return isNode(node) && c >= 0 && c < WIDTH ? coder.rowByte(node, c) : BAD;
    }

    // ---- contents

    public int feed(long w, int n) {
        if (n < 1 || n > WORD_BYTES) {
            return BAD;
        }
        if (tapeBytes + n > CONTENT_BYTES) {
            return FULL;
        }
        for (int i = n - 1; i >= 0; i--) {
            tape[tapeBytes] = (int) (w >> (8 * i)) & 255;
            tapeBytes++;
        }
        return tapeBytes;
    }

    public int cut(int n) {
        if (n < 0 || n >= CUTS) {
            return BAD;
        }
        cutBehind = n;
        return 1;
    }

    public int put(int object) {
        if (!isObject(object)) {
            return BAD;
        }
        if (unsettled[object]) {
            return NO;
        }
        if (liveNodes() < LIVE_TO_PUT) {
            return FEW;
        }
        if (leastFreeOfLive() < stripesOf(tapeBytes)) {
            return FULL;
        }
        if (tapeBytes == 0) {
            return EMPTY;
        }
        int answer = begin(object, tapeBytes);
        tapeBytes = 0;
        return answer;
    }

    public int remove(int object) {
        if (!isObject(object)) {
            return BAD;
        }
        if (unsettled[object]) {
            return NO;
        }
        return liveNodes() < LIVE_TO_PUT ? FEW : begin(object, 0);
    }

    public int settle(int object) {
        if (!isObject(object)) {
            return BAD;
        }
        if (!unsettled[object]) {
            return NO;
        }
        boolean taken = someNodeRecords(object, begun[object]);
        for (int i = 0; i < NODES; i++) {
            Node node = nodes[i];
            if (node.live && node.shadows[object].version == begun[object]) {
                if (taken) {
                    node.flip(object);
                } else {
                    node.giveUp(node.shadows[object]);
                }
            }
        }
        unsettled[object] = false;
        return taken ? 1 : 0;
    }

    public int get(int object, int told) {
        if (!isObject(object)) {
            return BAD;
        }
        if (unsettled[object]) {
            return NO;
        }
        if (chooseLeastNumbers(object, told) < ENOUGH) {
            return FEW;
        }
        int bytes = newestBytes(object);
        if (bytes == 0) {
            return EMPTY;
        }
        decode(object, bytes);
        gottenBytes = bytes;
        return bytes;
    }

    public int got(int i) {
        return i >= 0 && i < gottenBytes ? gotten[i] : NONE;
    }

    public int version(int object) {
        return isObject(object) ? newestOf(object) : BAD;
    }

    public int open(int object) {
        if (!isObject(object)) {
            return BAD;
        }
        return unsettled[object] ? 1 : 0;
    }

    // ---- nodes

    public int fail(int node) {
        if (!isNode(node)) {
            return BAD;
        }
        if (!nodes[node].live) {
            return NO;
        }
        nodes[node].live = false;
        return 1;
    }

    public int back(int node) {
        if (!isNode(node)) {
            return BAD;
        }
        if (nodes[node].live) {
            return NO;
        }
        nodes[node].live = true;
        return nodes[node].giveUpShadows();
    }

    public int wipe(int node) {
        if (!isNode(node)) {
            return BAD;
        }
        int taken = BLOCKS - nodes[node].freeBlocks();
        nodes[node].giveUpAll();
        nodes[node].live = true;
        return taken;
    }

    public int rebuild(int node, int helpers) {
        if (!isNode(node)) {
            return BAD;
        }
        if (!nodes[node].live) {
            return NO;
        }
        if (lacksHelpers(node, helpers)) {
            return FEW;
        }
        if (lacksRoom(node)) {
            return FULL;
        }
        int before = symbols;
        for (int object = 0; object < OBJECTS; object++) {
            if (isStale(node, object)) {
                renew(node, object, helpers);
            }
        }
        return symbols - before;
    }

    public int fresh(int node, int object) {
        if (!isNode(node) || !isObject(object)) {
            return BAD;
        }
        return isFresh(node, object, newestOf(object)) ? 1 : 0;
    }

    public int sent(int node) {
        return isNode(node) ? nodes[node].symbolsSent : BAD;
    }

    public int free(int node) {
        return isNode(node) ? nodes[node].freeBlocks() : BAD;
    }

    public int record(int node, int object, int what) {
        if (!isNode(node) || !isObject(object) || what < 0 || what >= 2 * RECORD_NUMBERS) {
            return BAD;
        }
        return recordNumber(nodes[node], object, what);
    }

    public int block(int node, int object, int s, boolean shadow) {
        if (!isNode(node) || !isObject(object)) {
            return BAD;
        }
        return shadow ? nodes[node].shadows[object].placeOf(s) : nodes[node].records[object].placeOf(s);
    }

    public int byteOf(int node, int block, int i) {
        if (!isNode(node) || block < 0 || block >= BLOCKS || i < 0 || i >= WIDTH) {
            return BAD;
        }
        return nodes[node].byteAt(block, i);
    }

    public int symbol(int helper, int node, int object, int s) {
        if (!isNode(helper) || !isNode(node) || !isObject(object)) {
            return BAD;
        }
        int place = nodes[helper].records[object].placeOf(s);
        return place == NONE ? NONE : symbolFrom(nodes[helper], place, node);
    }

    public int count(int what) {
        switch (what) {
            case 0:
                return liveNodes();
            case 1:
                return tapeBytes;
            case 2:
                return messages;
            case 3:
                return symbols;
            case 4:
                return openObjects();
            case 5:
                return cutBehind;
            default:
                return BAD;
        }
    }

    public long digest() {
        long h = 11;
        for (int i = 0; i < NODES; i++) {
            Node node = nodes[i];
            h = 31 * h + (node.live ? 1 : 0);
            h = 31 * h + node.symbolsSent;
            h = 31 * h + node.freeBlocks();
            for (int object = 0; object < OBJECTS; object++) {
                h = digestOfRecord(h, node, object);
            }
        }
        return h;
    }

    public int clear() {
        int known = 0;
        for (int object = 0; object < OBJECTS; object++) {
            if (newestOf(object) > 0) {
                known++;
            }
        }
        for (int i = 0; i < NODES; i++) {
            nodes[i].giveUpAll();
            nodes[i].live = true;
            nodes[i].symbolsSent = 0;
        }
        for (int object = 0; object < OBJECTS; object++) {
            begun[object] = 0;
            unsettled[object] = false;
        }
        tapeBytes = 0;
        cutBehind = NONE;
        return known;
    }

    // ---- what numbers are as told

    private static boolean isElement(int a) {
        return a >= 0 && a < ELEMENTS;
    }

    private static boolean isNode(int node) {
        return node >= 0 && node < NODES;
    }

    private static boolean isObject(int object) {
        return object >= 0 && object < OBJECTS;
    }

    private static boolean isTold(int bits, int node) {
        return (bits >> node & 1) == 1;
    }

    private static int stripesOf(int bytes) {
        return (bytes + STRIPE_BYTES - 1) / STRIPE_BYTES;
    }

    // ---- what stands in the store

    private int liveNodes() {
        int live = 0;
        for (int i = 0; i < NODES; i++) {
            if (nodes[i].live) {
                live++;
            }
        }
        return live;
    }

    private int openObjects() {
        int open = 0;
        for (int object = 0; object < OBJECTS; object++) {
            if (unsettled[object]) {
                open++;
            }
        }
        return open;
    }

    private int leastFreeOfLive() {
        int least = BLOCKS;
        for (int i = 0; i < NODES; i++) {
            if (nodes[i].live) {
                least = Math.min(least, nodes[i].freeBlocks());
            }
        }
        return least;
    }

    private int newestOf(int object) {
        int newest = 0;
        for (int i = 0; i < NODES; i++) {
            int version = nodes[i].records[object].version;
            if (version > newest && liveHolders(object, version) >= ENOUGH) {
                newest = version;
            }
        }
        return newest;
    }

    private int liveHolders(int object, int version) {
        int holders = 0;
        for (int i = 0; i < NODES; i++) {
            if (isFresh(i, object, version)) {
                holders++;
            }
        }
        return holders;
    }

    /** Whether a NODE is FRESH for an OBJECT, the NEWEST VERSION told: so a look at all NODES makes it out but once. */
    private boolean isFresh(int node, int object, int newest) {
        return newest > 0 && nodes[node].live && nodes[node].records[object].version == newest;
    }

    /** How many bytes the NEWEST VERSION of an OBJECT has: 0 if it was removed, or there is none. */
    private int newestBytes(int object) {
        int newest = newestOf(object);
        for (int i = 0; i < NODES; i++) {
            if (isFresh(i, object, newest)) {
                return nodes[i].records[object].bytes;
            }
        }
        return 0;
    }

    private boolean someNodeRecords(int object, int version) {
        for (int i = 0; i < NODES; i++) {
            if (nodes[i].records[object].version == version) {
                return true;
            }
        }
        return false;
    }

    private static int recordNumber(Node node, int object, int what) {
        boolean ofShadow = what >= RECORD_NUMBERS;
        Holding holding = ofShadow ? node.shadows[object] : node.records[object];
        if (holding.version == 0) {
            return NONE;
        }
        int number = ofShadow ? what - RECORD_NUMBERS : what;
        if (number == 0) {
            return holding.version;
        }
        return number == 1 ? holding.bytes : holding.stripes;
    }

    private static long digestOfRecord(long before, Node node, int object) {
        long h = before;
        for (int what = 0; what < 2 * RECORD_NUMBERS; what++) {
            h = 31 * h + recordNumber(node, object, what);
        }
        Holding held = node.records[object];
        for (int s = 0; s < held.stripes; s++) {
            int place = held.placeOf(s);
            for (int i = 0; i < WIDTH; i++) {
                h = 31 * h + node.byteAt(place, i);
            }
        }
        return h;
    }

    // ---- putting

    /** Begins a VERSION of that many bytes, which stand on the tape; what put() and remove() answer. */
    private int begin(int object, int bytes) {
        begun[object]++;
        int live = liveNodes();
        int due = 2 * live;
        boolean isCut = cutBehind != NONE && cutBehind < due;
        int going = isCut ? cutBehind : due;
        cutBehind = NONE;
        messages += going;
        sendShadows(object, bytes, Math.min(going, live));
        sendFlips(object, going - live);
        unsettled[object] = isCut;
        return isCut ? 0 : begun[object];
    }

    private void sendShadows(int object, int bytes, int most) {
        int left = most;
        for (int i = 0; i < NODES && left > 0; i++) {
            if (nodes[i].live) {
                nodes[i].take(nodes[i].shadows[object], begun[object], bytes);
                left--;
            }
        }
        for (int s = 0; s < stripesOf(bytes); s++) {
            coder.load(tape, s * STRIPE_BYTES, bytes);
            fillShadows(object, s);
        }
    }

    /** Writes the SHARES of the STRIPE in the MATRIX; a LIVE NODE that got no message has no place for one. */
    private void fillShadows(int object, int s) {
        for (int i = 0; i < NODES; i++) {
            int place = nodes[i].live ? nodes[i].shadows[object].placeOf(s) : NONE;
            if (place != NONE) {
                coder.share(i, wire);
                nodes[i].write(place, wire);
            }
        }
    }

    private void sendFlips(int object, int most) {
        int left = most;
        for (int i = 0; i < NODES && left > 0; i++) {
            if (nodes[i].live) {
                nodes[i].flip(object);
                left--;
            }
        }
    }

    // ---- getting

    /** Chooses the five least of the NODES that are told and FRESH; how many were found. */
    private int chooseLeastNumbers(int object, int told) {
        int newest = newestOf(object);
        int found = 0;
        for (int i = 0; i < NODES && found < ENOUGH; i++) {
            if (isTold(told, i) && isFresh(i, object, newest)) {
                chosen[found] = i;
                found++;
            }
        }
        return found;
    }

    private void decode(int object, int bytes) {
        coder.invert(chosen, ENOUGH);
        for (int s = 0; s < stripesOf(bytes); s++) {
            for (int k = 0; k < ENOUGH; k++) {
                Node node = nodes[chosen[k]];
                node.read(node.records[object].placeOf(s), wire);
                coder.give(k, wire);
            }
            coder.solve(chosen);
            coder.unload(gotten, s * STRIPE_BYTES, bytes);
        }
    }

    // ---- rebuilding

    /** Whether rebuilding a NODE goes over an OBJECT. */
    private boolean isStale(int node, int object) {
        int newest = newestOf(object);
        return !unsettled[object] && newest > 0 && !isFresh(node, object, newest);
    }

    private boolean lacksHelpers(int node, int helpers) {
        for (int object = 0; object < OBJECTS; object++) {
            if (isStale(node, object) && newestBytes(object) > 0
                    && chooseLeastSent(node, object, helpers) < WIDTH) {
                return true;
            }
        }
        return false;
    }

    private boolean lacksRoom(int node) {
        int taken = BLOCKS - nodes[node].freeBlocks();
        for (int object = 0; object < OBJECTS; object++) {
            if (isStale(node, object)) {
                taken += stripesOf(newestBytes(object)) - nodes[node].records[object].stripes;
            }
            if (taken > BLOCKS) {
                return true;
            }
        }
        return false;
    }

    private void renew(int node, int object, int helpers) {
        int newest = newestOf(object);
        int bytes = newestBytes(object);
        Node lost = nodes[node];
        lost.giveUp(lost.records[object]);
        lost.take(lost.records[object], newest, bytes);
        if (bytes > 0 && chooseLeastSent(node, object, helpers) == WIDTH) {
            repair(node, object, stripesOf(bytes));
        }
    }

    /** Chooses the eight HELPERS of a NODE that SENT least; how many were found. */
    private int chooseLeastSent(int node, int object, int helpers) {
        int newest = newestOf(object);
        int left = helpers;
        int found = 0;
        while (found < WIDTH) {
            int best = NONE;
            for (int i = 0; i < NODES; i++) {
                if (i != node && isTold(left, i) && isFresh(i, object, newest)
                        && (best == NONE || nodes[i].symbolsSent < nodes[best].symbolsSent)) {
                    best = i;
                }
            }
            if (best == NONE) {
                return found;
            }
            chosen[found] = best;
            left &= ~(1 << best);
            found++;
        }
        return found;
    }

    private void repair(int node, int object, int stripes) {
        coder.invert(chosen, WIDTH);
        for (int s = 0; s < stripes; s++) {
            for (int k = 0; k < WIDTH; k++) {
                Node helper = nodes[chosen[k]];
                wire[k] = symbolFrom(helper, helper.records[object].placeOf(s), node);
                helper.symbolsSent++;
                symbols++;
            }
            coder.multiplyByInverse(wire);
            nodes[node].write(nodes[node].records[object].placeOf(s), wire);
        }
    }

    private int symbolFrom(Node helper, int place, int node) {
        int sum = 0;
        for (int c = 0; c < WIDTH; c++) {
            sum ^= coder.field.product(helper.byteAt(place, c), coder.rowByte(node, c));
        }
        return sum;
    }

    /** The field of 256 elements. All of them but 0 are powers of 2, so products are sums of exponents. */
    private static final class Field {
        private static final int POLYNOMIAL = 285, ORDER = 255;

        // Twice round, so that a sum of two exponents needs no remainder.
        private final int[] powers = new int[2 * ELEMENTS];
        private final int[] exponents = new int[ELEMENTS];

        Field() {
            int x = 1;
            for (int e = 0; e < ORDER; e++) {
                powers[e] = x;
                powers[e + ORDER] = x;
                exponents[x & 255] = e;
                x <<= 1;
                if (x >= ELEMENTS) {
                    x ^= POLYNOMIAL;
                }
            }
        }

        int product(int a, int b) {
            if (a == 0 || b == 0) {
                return 0;
            }
            return powers[exponents[a & 255] + exponents[b & 255]];
        }

        /** What times b is a; 0 for a divisor 0, which callers keep out. */
        int quotient(int a, int b) {
            if (a == 0 || b == 0) {
                return 0;
            }
            return powers[exponents[a & 255] + ORDER - exponents[b & 255]];
        }
    }

    /** Makes SHARES of STRIPES, and STRIPES and lost SHARES anew. */
    private static final class Coder {
        private final Field field = new Field();
        private final int[][] rows = new int[NODES][WIDTH];
        private final int[][] matrix = new int[WIDTH][WIDTH];
        private final int[][] given = new int[ENOUGH][WIDTH];
        private final int[][] square = new int[WIDTH][WIDTH];
        private final int[][] inverse = new int[WIDTH][WIDTH];
        private final int[] result = new int[WIDTH];

        Coder() {
            for (int i = 0; i < NODES; i++) {
                int power = 1;
                for (int c = 0; c < WIDTH; c++) {
                    rows[i][c] = power;
                    power = field.product(power, i + 1);
                }
            }
        }

        int rowByte(int node, int c) {
            return isNode(node) && c >= 0 && c < WIDTH ? rows[node][c] : 0;
        }

        /** Fills the MATRIX with the STRIPE that begins at a byte of contents which end at another. */
        void load(int[] contents, int begin, int end) {
            int at = begin;
            for (int r = 0; r < ENOUGH; r++) {
                for (int c = r; c < ENOUGH; c++) {
                    mirror(r, c, byteBefore(contents, at, end));
                    at++;
                }
            }
            for (int r = 0; r < ENOUGH; r++) {
                for (int c = ENOUGH; c < WIDTH; c++) {
                    mirror(r, c, byteBefore(contents, at, end));
                    at++;
                }
            }
        }

        private void mirror(int r, int c, int value) {
            matrix[r][c] = value;
            matrix[c][r] = value;
        }

        private static int byteBefore(int[] contents, int at, int end) {
            return at >= 0 && at < end && at < contents.length ? contents[at] : 0;
        }

        /** Puts the STRIPE that stands in the MATRIX back to its place in contents. */
        void unload(int[] contents, int begin, int end) {
            int at = begin;
            for (int r = 0; r < ENOUGH; r++) {
                for (int c = r; c < ENOUGH; c++) {
                    storeBefore(contents, at, end, matrix[r][c]);
                    at++;
                }
            }
            for (int r = 0; r < ENOUGH; r++) {
                for (int c = ENOUGH; c < WIDTH; c++) {
                    storeBefore(contents, at, end, matrix[r][c]);
                    at++;
                }
            }
        }

        private static void storeBefore(int[] contents, int at, int end, int value) {
            if (at >= 0 && at < end && at < contents.length) {
                contents[at] = value;
            }
        }

        /** A NODE's SHARE of the STRIPE in the MATRIX, into a row of eight bytes. */
        void share(int node, int[] to) {
            for (int c = 0; c < WIDTH && c < to.length; c++) {
                int sum = 0;
                for (int r = 0; r < WIDTH; r++) {
                    sum ^= field.product(rowByte(node, r), matrix[r][c]);
                }
                to[c] = sum;
            }
        }

        /**
         * Inverts the square that the first n bytes of n NODES' ROWS make. Rows are never swapped: the p's differ,
         * so every upper left square of powers has an inverse too, and no pivot is 0.
         */
        void invert(int[] of, int n) {
            if (n > WIDTH || n > of.length) {
                return;
            }
            for (int i = 0; i < n; i++) {
                for (int j = 0; j < n; j++) {
                    square[i][j] = rowByte(of[i], j);
                    inverse[i][j] = i == j ? 1 : 0;
                }
            }
            for (int p = 0; p < n; p++) {
                int pivot = square[p][p];
                for (int j = 0; j < n; j++) {
                    square[p][j] = field.quotient(square[p][j], pivot);
                    inverse[p][j] = field.quotient(inverse[p][j], pivot);
                }
                clearColumn(p, n);
            }
        }

        private void clearColumn(int p, int n) {
            for (int i = 0; i < n; i++) {
                int factor = i == p ? 0 : square[i][p];
                for (int j = 0; j < n && factor != 0; j++) {
                    square[i][j] ^= field.product(factor, square[p][j]);
                    inverse[i][j] ^= field.product(factor, inverse[p][j]);
                }
            }
        }

        /** Turns eight SYMBOLS, in the order of the NODES inverted, into the SHARE they were sent for. */
        void multiplyByInverse(int[] column) {
            if (column.length < WIDTH) {
                return;
            }
            for (int i = 0; i < WIDTH; i++) {
                int sum = 0;
                for (int k = 0; k < WIDTH; k++) {
                    sum ^= field.product(inverse[i][k], column[k]);
                }
                result[i] = sum;
            }
            System.arraycopy(result, 0, column, 0, WIDTH);
        }

        /** Takes the SHARE of the k-th of five NODES. */
        void give(int k, int[] bytes) {
            if (k >= 0 && k < ENOUGH && bytes.length >= WIDTH) {
                System.arraycopy(bytes, 0, given[k], 0, WIDTH);
            }
        }

        /**
         * Makes the MATRIX of five NODES' SHARES. Its last columns have zeros below, so the first five bytes of the
         * ROWS alone made the last bytes of the SHARES; these known, the other bytes lose their part in them.
         */
        void solve(int[] of) {
            if (of.length < ENOUGH) {
                return;
            }
            for (int c = ENOUGH; c < WIDTH; c++) {
                solveColumn(c);
            }
            for (int k = 0; k < ENOUGH; k++) {
                for (int c = 0; c < ENOUGH; c++) {
                    for (int r = ENOUGH; r < WIDTH; r++) {
                        given[k][c] ^= field.product(rowByte(of[k], r), matrix[r][c]);
                    }
                }
            }
            for (int c = 0; c < ENOUGH; c++) {
                solveColumn(c);
            }
        }

        private void solveColumn(int c) {
            for (int r = 0; r < ENOUGH; r++) {
                int sum = 0;
                for (int k = 0; k < ENOUGH; k++) {
                    sum ^= field.product(inverse[r][k], given[k][c]);
                }
                mirror(r, c, sum);
            }
        }
    }

    /** A RECORD or a SHADOW; none as long as its version is 0. */
    private static final class Holding {
        private final int[] places = new int[STRIPES];
        private int version = 0;
        private int bytes = 0;
        private int stripes = 0;

        int placeOf(int s) {
            return s >= 0 && s < stripes && s < STRIPES ? places[s] : NONE;
        }
    }

    /** A NODE: its BLOCKS, and what it holds of each OBJECT. */
    private static final class Node {
        private final int[] data = new int[BLOCKS * WIDTH];
        private final boolean[] taken = new boolean[BLOCKS];
        private final Holding[] records = new Holding[OBJECTS];
        private final Holding[] shadows = new Holding[OBJECTS];
        private boolean live = true;
        private int symbolsSent = 0;

        Node() {
            for (int object = 0; object < OBJECTS; object++) {
                records[object] = new Holding();
                shadows[object] = new Holding();
            }
        }

        int freeBlocks() {
            int free = 0;
            for (int b = 0; b < BLOCKS; b++) {
                if (!taken[b]) {
                    free++;
                }
            }
            return free;
        }

        private int takeLeastFree() {
            for (int b = 0; b < BLOCKS; b++) {
                if (!taken[b]) {
                    taken[b] = true;
                    return b;
                }
            }
            return NONE;
        }

        /** Makes a holding that is none one of a version, with blocks for its stripes. */
        void take(Holding holding, int version, int bytes) {
            holding.version = version;
            holding.bytes = bytes;
            holding.stripes = Math.min(stripesOf(bytes), STRIPES);
            for (int s = 0; s < holding.stripes; s++) {
                holding.places[s] = takeLeastFree();
            }
        }

        void giveUp(Holding holding) {
            for (int s = 0; s < holding.stripes; s++) {
                int place = holding.placeOf(s);
                if (place >= 0 && place < BLOCKS) {
                    taken[place] = false;
                }
            }
            holding.version = 0;
            holding.bytes = 0;
            holding.stripes = 0;
        }

        /** Lets the two holdings change places, so that none is made. */
        void flip(int object) {
            Holding old = records[object];
            giveUp(old);
            records[object] = shadows[object];
            shadows[object] = old;
        }

        int giveUpShadows() {
            int given = 0;
            for (int object = 0; object < OBJECTS; object++) {
                if (shadows[object].version > 0) {
                    given++;
                }
                giveUp(shadows[object]);
            }
            return given;
        }

        void giveUpAll() {
            giveUpShadows();
            for (int object = 0; object < OBJECTS; object++) {
                giveUp(records[object]);
            }
        }

        int byteAt(int block, int i) {
            if (block < 0 || block >= BLOCKS || i < 0 || i >= WIDTH || !taken[block]) {
                return NONE;
            }
            return data[block * WIDTH + i];
        }

        void read(int block, int[] to) {
            for (int i = 0; i < WIDTH && i < to.length; i++) {
                to[i] = byteAt(block, i);
            }
        }

        void write(int block, int[] from) {
            if (block < 0 || block >= BLOCKS) {
                return;
            }
            for (int i = 0; i < WIDTH && i < from.length; i++) {
                data[block * WIDTH + i] = from[i];
            }
        }
    }
}
