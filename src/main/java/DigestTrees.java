import java.util.Arrays;
import java.util.NoSuchElementException;

/**
 * Rows of two sides, compared by trees of digests that are walked by rounds, or by tables of counted
 * cells that are peeled. A row's slot is 64 * node + number - 1: its place inside, and its key in a table.
 */
public final class DigestTrees {
    public static final int NONE = -1;

    private static final int SIDES = 2;
    private static final int NODES = 4;
    private static final int NUMBERS = 64;
    private static final int SLOTS = 256;
    private static final int FIRST_LEAF = 32;
    private static final int RANGES = 64;
    private static final int LEVELS = 6;
    private static final int LEAF_ROWS = 8;
    private static final int NODE_LEAVES = 8;
    private static final int DIGEST_WORDS = 8;
    private static final int DIGEST_BYTES = 32;
    private static final int LEAST_CELLS = 6;
    private static final int MOST_CELLS = 63;
    private static final int CELLS_OF_ROW = 3;

    private final Side zero = new Side();
    private final Side one = new Side();
    private final Sha sha = new Sha();
    private final Walk walk = new Walk();
    private final Table cells = new Table();

    public DigestTrees() {
    }

    public int row(int side, int node, int number, long v) throws IllegalArgumentException {
        int slot = slotOf(side, node, number);
        if (slot == NONE) {
            throw new IllegalArgumentException("no such side, node or number");
        }
        Side own = sideOf(side);
        own.put(slot, v);
        own.remake(leafOf(slot), leafOf(slot), otherOf(side), sha);
        return own.size();
    }

    public boolean drop(int side, int node, int number) {
        int slot = slotOf(side, node, number);
        if (slot == NONE || !sideOf(side).has(slot)) {
            return false;
        }
        sideOf(side).remove(slot);
        sideOf(side).remake(leafOf(slot), leafOf(slot), otherOf(side), sha);
        return true;
    }

    public boolean hold(int side, int node, boolean on) {
        if (!isSide(side) || !isNode(node) || sideOf(side).holds(node) == on) {
            return false;
        }
        sideOf(side).setHolding(node, on);
        int first = FIRST_LEAF + NODE_LEAVES * node;
        int last = first + NODE_LEAVES - 1;
        // A row counts only if both sides hold its node, so both trees follow.
        zero.remake(first, last, one, sha);
        one.remake(first, last, zero, sha);
        return true;
    }

    public boolean poke(int side, int node, int number, long mask) {
        int slot = slotOf(side, node, number);
        if (slot == NONE || mask == 0 || !sideOf(side).has(slot)) {
            return false;
        }
        sideOf(side).put(slot, sideOf(side).value(slot) ^ mask);
        return true;
    }

    public long get(int side, int node, int number) throws NoSuchElementException {
        int slot = slotOf(side, node, number);
        if (slot == NONE || !sideOf(side).has(slot)) {
            throw new NoSuchElementException("no such row");
        }
        return sideOf(side).value(slot);
    }

    public void begin() {
        walk.restart();
    }

    public int round() throws IllegalStateException {
        if (walk.pending() == 0) {
            throw new IllegalStateException("no walk, or it has ended");
        }
        walk.lookAtAll(zero, one);
        return walk.pending();
    }

    public int rounds() {
        return walk.roundsDone();
    }

    public int differ(int k, int what) {
        return walk.told(k, what);
    }

    public boolean equal() {
        return zero.keepsLike(one, 1);
    }

    public int table(int n) throws IllegalArgumentException {
        if (n < LEAST_CELLS || n > MOST_CELLS || n % CELLS_OF_ROW != 0) {
            throw new IllegalArgumentException("a table has 6 to 63 cells, in three equal parts");
        }
        cells.clear(n);
        for (int slot = 0; slot < SLOTS; slot++) {
            if (zero.hasCounting(slot, one)) {
                cells.turn(slot, zero.value(slot), 1);
            }
            if (one.hasCounting(slot, zero)) {
                cells.turn(slot, one.value(slot), -1);
            }
        }
        cells.peel();
        return cells.isZero() ? cells.foundSize() : -1 - cells.foundSize();
    }

    public int found(int k, int what) {
        return cells.foundPart(k, what);
    }

    public long foundValue(int k) throws NoSuchElementException {
        if (!cells.hasFound(k)) {
            throw new NoSuchElementException("no such row was found");
        }
        return cells.valueFound(k);
    }

    public int digest(int side, int range, int i) throws ArrayIndexOutOfBoundsException {
        if (!isSide(side) || !isRange(range) || i < 0 || i >= DIGEST_BYTES) {
            throw new ArrayIndexOutOfBoundsException("no such side, range or byte");
        }
        return sideOf(side).keptByte(range, i);
    }

    public int sum(int side, int range) throws ArrayIndexOutOfBoundsException {
        if (!isSide(side) || !isRange(range)) {
            throw new ArrayIndexOutOfBoundsException("no such side or range");
        }
        return sideOf(side).keptSum(range);
    }

    public int broken(int side) {
        if (!isSide(side)) {
            return NONE;
        }
        for (int range = FIRST_LEAF; range < RANGES; range++) {
            if (!sideOf(side).isLeafTrue(range, sha)) {
                return range;
            }
        }
        return NONE;
    }

    public int anew(int side) {
        if (!isSide(side)) {
            return NONE;
        }
        return sideOf(side).remake(FIRST_LEAF, RANGES - 1, otherOf(side), sha);
    }

    public int leaf(int range, int what) {
        if (!isRange(range)) {
            return NONE;
        }
        int first = range;
        int last = range;
        for (int level = 0; level < LEVELS && first < FIRST_LEAF; level++) {
            first = 2 * first;
            last = 2 * last + 1;
        }
        int least = LEAF_ROWS * (first - FIRST_LEAF);
        int greatest = LEAF_ROWS * (last - FIRST_LEAF) + LEAF_ROWS - 1;
        switch (what) {
            case 0:
                return nodeOf(least) == nodeOf(greatest) ? nodeOf(least) : NONE;
            case 1:
                return numberOf(least);
            case 2:
                return numberOf(greatest);
            case 3:
                return zero.countingIn(range);
            case 4:
                return one.countingIn(range);
            default:
                return NONE;
        }
    }

    private Side sideOf(int side) {
        return side == 0 ? zero : one;
    }

    private Side otherOf(int side) {
        return side == 0 ? one : zero;
    }

    private static boolean isSide(int side) {
        return side >= 0 && side < SIDES;
    }

    private static boolean isNode(int node) {
        return node >= 0 && node < NODES;
    }

    private static boolean isRange(int range) {
        return range >= 1 && range < RANGES;
    }

    private static int slotOf(int side, int node, int number) {
        if (!isSide(side) || !isNode(node) || number < 1 || number > NUMBERS) {
            return NONE;
        }
        return NUMBERS * node + number - 1;
    }

    private static int nodeOf(int slot) {
        return slot / NUMBERS;
    }

    private static int numberOf(int slot) {
        return slot % NUMBERS + 1;
    }

    private static int leafOf(int slot) {
        return FIRST_LEAF + slot / LEAF_ROWS;
    }

    private static int firstSlotOf(int leaf) {
        return LEAF_ROWS * (leaf - FIRST_LEAF);
    }

    /** Carries s on by the lowest bytes of text, the highest of them first. */
    private static int mix(int s, long text, int bytes) {
        int mixed = s;
        for (int i = bytes - 1; i >= 0; i--) {
            int b = (int) (text >>> (8 * i)) & 255;
            mixed = Integer.rotateLeft(mixed ^ b, 7) * 668265263;
        }
        return mixed;
    }

    private static int mixRow(int s, int slot, long v) {
        return mix(mix(mix(s, nodeOf(slot), 1), numberOf(slot), 1), v, 8);
    }

    /** The rows of a side, the nodes it holds, and what is kept of its ranges. */
    private static final class Side {
        private final boolean[] present = new boolean[SLOTS];
        private final long[] values = new long[SLOTS];
        private final boolean[] holding = {true, true, true, true};
        private final int[] digests = new int[RANGES * DIGEST_WORDS];
        private final int[] sums = new int[RANGES];
        private final int[] counting = new int[RANGES];
        private int size;

        Side() {
        }

        int size() {
            return size;
        }

        boolean has(int slot) {
            return present[slot];
        }

        long value(int slot) {
            return values[slot];
        }

        boolean holds(int node) {
            return holding[node];
        }

        void setHolding(int node, boolean on) {
            holding[node] = on;
        }

        void put(int slot, long v) {
            if (!present[slot]) {
                present[slot] = true;
                size++;
            }
            values[slot] = v;
        }

        void remove(int slot) {
            if (present[slot]) {
                present[slot] = false;
                size--;
            }
        }

        boolean hasCounting(int slot, Side other) {
            return present[slot] && holding[nodeOf(slot)] && other.holding[nodeOf(slot)];
        }

        int countingIn(int range) {
            return counting[range];
        }

        int keptSum(int range) {
            return sums[range];
        }

        int keptByte(int range, int i) {
            return digests[DIGEST_WORDS * range + i / 4] >>> (24 - 8 * (i % 4)) & 255;
        }

        boolean keepsLike(Side other, int range) {
            int start = DIGEST_WORDS * range;
            for (int i = start; i < start + DIGEST_WORDS; i++) {
                if (digests[i] != other.digests[i]) {
                    return false;
                }
            }
            return true;
        }

        boolean isLeafTrue(int leaf, Sha sha) {
            hashLeaf(leaf, sha);
            return isKept(leaf, sha);
        }

        /** Makes leaves first .. last anew, and all above them: of how many ranges the digest is another one. */
        int remake(int first, int last, Side other, Sha sha) {
            int changed = 0;
            for (int leaf = first; leaf <= last; leaf++) {
                countLeaf(leaf, other);
                sums[leaf] = leafSum(leaf);
                hashLeaf(leaf, sha);
                changed += keep(leaf, sha);
            }
            for (int low = first / 2, high = last / 2; low >= 1; low /= 2, high /= 2) {
                for (int range = low; range <= high; range++) {
                    counting[range] = counting[2 * range] + counting[2 * range + 1];
                    sums[range] = innerSum(range);
                    hashInner(range, sha);
                    changed += keep(range, sha);
                }
            }
            return changed;
        }

        private void countLeaf(int leaf, Side other) {
            int start = firstSlotOf(leaf);
            int many = 0;
            for (int slot = start; slot < start + LEAF_ROWS; slot++) {
                if (hasCounting(slot, other)) {
                    many++;
                }
            }
            counting[leaf] = many;
        }

        // The rows of one leaf share a node: if one of them counts, all of them do.
        private int leafSum(int leaf) {
            if (counting[leaf] == 0) {
                return 0;
            }
            int start = firstSlotOf(leaf);
            int s = 0;
            for (int slot = start; slot < start + LEAF_ROWS; slot++) {
                if (present[slot]) {
                    s = mixRow(s, slot, values[slot]);
                }
            }
            return s;
        }

        private int innerSum(int range) {
            if (counting[range] == 0) {
                return 0;
            }
            return mix(mix(0, sums[2 * range], 4), sums[2 * range + 1], 4);
        }

        private void hashLeaf(int leaf, Sha sha) {
            if (counting[leaf] == 0) {
                sha.setZero();
                return;
            }
            int start = firstSlotOf(leaf);
            sha.start();
            for (int slot = start; slot < start + LEAF_ROWS; slot++) {
                if (present[slot]) {
                    sha.take(nodeOf(slot), 1);
                    sha.take(numberOf(slot), 1);
                    sha.take(values[slot], 8);
                }
            }
            sha.finish();
        }

        private void hashInner(int range, Sha sha) {
            if (counting[range] == 0) {
                sha.setZero();
                return;
            }
            // The digests of 2 * range and 2 * range + 1 lie one behind the other.
            int start = DIGEST_WORDS * 2 * range;
            sha.start();
            for (int i = start; i < start + 2 * DIGEST_WORDS; i++) {
                sha.take(digests[i], 4);
            }
            sha.finish();
        }

        private boolean isKept(int range, Sha sha) {
            for (int i = 0; i < DIGEST_WORDS; i++) {
                if (digests[DIGEST_WORDS * range + i] != sha.word(i)) {
                    return false;
                }
            }
            return true;
        }

        private int keep(int range, Sha sha) {
            if (isKept(range, sha)) {
                return 0;
            }
            for (int i = 0; i < DIGEST_WORDS; i++) {
                digests[DIGEST_WORDS * range + i] = sha.word(i);
            }
            return 1;
        }
    }

    /** SHA-256 of bytes that come one after the other. */
    private static final class Sha {
        private static final int IN_BLOCK = 63;
        private static final int LENGTH_AT = 56;
        private static final int ROUNDS = 64;
        private static final int[] FIRST = {
            0x6a09e667, 0xbb67ae85, 0x3c6ef372, 0xa54ff53a, 0x510e527f, 0x9b05688c, 0x1f83d9ab, 0x5be0cd19
        };
        private static final int[] ROUND = {
            0x428a2f98, 0x71374491, 0xb5c0fbcf, 0xe9b5dba5, 0x3956c25b, 0x59f111f1, 0x923f82a4, 0xab1c5ed5,
            0xd807aa98, 0x12835b01, 0x243185be, 0x550c7dc3, 0x72be5d74, 0x80deb1fe, 0x9bdc06a7, 0xc19bf174,
            0xe49b69c1, 0xefbe4786, 0x0fc19dc6, 0x240ca1cc, 0x2de92c6f, 0x4a7484aa, 0x5cb0a9dc, 0x76f988da,
            0x983e5152, 0xa831c66d, 0xb00327c8, 0xbf597fc7, 0xc6e00bf3, 0xd5a79147, 0x06ca6351, 0x14292967,
            0x27b70a85, 0x2e1b2138, 0x4d2c6dfc, 0x53380d13, 0x650a7354, 0x766a0abb, 0x81c2c92e, 0x92722c85,
            0xa2bfe8a1, 0xa81a664b, 0xc24b8b70, 0xc76c51a3, 0xd192e819, 0xd6990624, 0xf40e3585, 0x106aa070,
            0x19a4c116, 0x1e376c08, 0x2748774c, 0x34b0bcb5, 0x391c0cb3, 0x4ed8aa4a, 0x5b9cca4f, 0x682e6ff3,
            0x748f82ee, 0x78a5636f, 0x84c87814, 0x8cc70208, 0x90befffa, 0xa4506ceb, 0xbef9a3f7, 0xc67178f2
        };

        private final int[] state = new int[DIGEST_WORDS];
        private final int[] w = new int[ROUNDS];
        private int taken;

        Sha() {
        }

        void setZero() {
            Arrays.fill(state, 0);
        }

        void start() {
            System.arraycopy(FIRST, 0, state, 0, DIGEST_WORDS);
            taken = 0;
        }

        int word(int i) {
            return state[i];
        }

        /** Takes the lowest bytes of text, the highest of them first. */
        void take(long text, int bytes) {
            for (int i = bytes - 1; i >= 0; i--) {
                // Four bytes push out whatever the word held for the block before.
                int at = (taken & IN_BLOCK) / 4;
                w[at] = w[at] << 8 | (int) (text >>> (8 * i)) & 255;
                taken++;
                if ((taken & IN_BLOCK) == 0) {
                    spreadWords();
                    mixBlock();
                }
            }
        }

        void finish() {
            long bits = 8L * taken;
            take(128, 1);
            for (int i = 0; i <= IN_BLOCK && (taken & IN_BLOCK) != LENGTH_AT; i++) {
                take(0, 1);
            }
            take(bits, 8);
        }

        private void spreadWords() {
            for (int t = 16; t < ROUNDS; t++) {
                int x = w[t - 15];
                int y = w[t - 2];
                int s0 = Integer.rotateRight(x, 7) ^ Integer.rotateRight(x, 18) ^ x >>> 3;
                int s1 = Integer.rotateRight(y, 17) ^ Integer.rotateRight(y, 19) ^ y >>> 10;
                w[t] = s1 + w[t - 7] + s0 + w[t - 16];
            }
        }

        private void mixBlock() {
            int a = state[0];
            int b = state[1];
            int c = state[2];
            int d = state[3];
            int e = state[4];
            int f = state[5];
            int g = state[6];
            int h = state[7];
            for (int t = 0; t < ROUNDS; t++) {
                int turnedE = Integer.rotateRight(e, 6) ^ Integer.rotateRight(e, 11) ^ Integer.rotateRight(e, 25);
                int turnedA = Integer.rotateRight(a, 2) ^ Integer.rotateRight(a, 13) ^ Integer.rotateRight(a, 22);
                int first = h + turnedE + (e & f ^ ~e & g) + ROUND[t] + w[t];
                int second = turnedA + (a & b ^ a & c ^ b & c);
                h = g;
                g = f;
                f = e;
                e = d + first;
                d = c;
                c = b;
                b = a;
                a = first + second;
            }
            state[0] += a;
            state[1] += b;
            state[2] += c;
            state[3] += d;
            state[4] += e;
            state[5] += f;
            state[6] += g;
            state[7] += h;
        }
    }

    /** The ranges that are to be looked at, and the differences told so far. */
    private static final class Walk {
        private static final int LEFT_ALONE = 0;
        private static final int RIGHT_ALONE = 1;
        private static final int OTHER_VALUE = 2;

        // No level of the tree has more ranges than that of the leaves.
        private final int[] ranges = new int[RANGES - FIRST_LEAF];
        private final int[] coming = new int[RANGES - FIRST_LEAF];
        private final int[] kinds = new int[SLOTS];
        private final int[] slots = new int[SLOTS];
        private int pending;
        private int comingSize;
        private int toldSize;
        private int done = NONE;

        Walk() {
        }

        void restart() {
            ranges[0] = 1;
            pending = 1;
            toldSize = 0;
            done = 0;
        }

        int pending() {
            return pending;
        }

        int roundsDone() {
            return done;
        }

        int told(int k, int what) {
            if (k < 0 || k >= toldSize || k >= SLOTS) {
                return NONE;
            }
            switch (what) {
                case 0:
                    return kinds[k];
                case 1:
                    return nodeOf(slots[k]);
                case 2:
                    return numberOf(slots[k]);
                default:
                    return NONE;
            }
        }

        void lookAtAll(Side zero, Side one) {
            comingSize = 0;
            for (int i = 0; i < pending && i < ranges.length; i++) {
                lookAt(ranges[i], zero, one);
            }
            System.arraycopy(coming, 0, ranges, 0, coming.length);
            pending = comingSize;
            done++;
        }

        private void lookAt(int range, Side zero, Side one) {
            if (!isRange(range) || zero.keepsLike(one, range)) {
                return;
            }
            if (range >= FIRST_LEAF) {
                tellLeaf(range, zero, one);
            } else {
                addComing(2 * range);
                addComing(2 * range + 1);
            }
        }

        private void addComing(int range) {
            if (comingSize < coming.length) {
                coming[comingSize] = range;
                comingSize++;
            }
        }

        private void tellLeaf(int leaf, Side zero, Side one) {
            int start = firstSlotOf(leaf);
            for (int slot = start; slot < start + LEAF_ROWS; slot++) {
                boolean left = zero.hasCounting(slot, one);
                boolean right = one.hasCounting(slot, zero);
                if (left && !right) {
                    tell(LEFT_ALONE, slot);
                } else if (right && !left) {
                    tell(RIGHT_ALONE, slot);
                } else if (left && zero.value(slot) != one.value(slot)) {
                    tell(OTHER_VALUE, slot);
                }
            }
        }

        private void tell(int kind, int slot) {
            if (toldSize < SLOTS) {
                kinds[toldSize] = kind;
                slots[toldSize] = slot;
                toldSize++;
            }
        }
    }

    /** The cells of the latest table, and the rows that were found when it was peeled. */
    private static final class Table {
        private static final int MARK = 3;

        private final int[] counts = new int[MOST_CELLS];
        private final int[] keys = new int[MOST_CELLS];
        private final long[] values = new long[MOST_CELLS];
        private final int[] marks = new int[MOST_CELLS];
        private final int[] foundSides = new int[SLOTS];
        private final int[] foundSlots = new int[SLOTS];
        private final long[] foundValues = new long[SLOTS];
        private int third = LEAST_CELLS / CELLS_OF_ROW;
        private int foundSize;

        Table() {
        }

        void clear(int n) {
            Arrays.fill(counts, 0);
            Arrays.fill(keys, 0);
            Arrays.fill(values, 0);
            Arrays.fill(marks, 0);
            third = n / CELLS_OF_ROW;
            foundSize = 0;
        }

        int foundSize() {
            return foundSize;
        }

        boolean hasFound(int k) {
            return k >= 0 && k < foundSize && k < SLOTS;
        }

        long valueFound(int k) {
            return foundValues[k];
        }

        int foundPart(int k, int what) {
            if (!hasFound(k)) {
                return NONE;
            }
            switch (what) {
                case 0:
                    return foundSides[k];
                case 1:
                    return nodeOf(foundSlots[k]);
                case 2:
                    return numberOf(foundSlots[k]);
                default:
                    return NONE;
            }
        }

        /** Puts a row into its three cells, or takes it out: exclusive-or undoes itself, the count needs its sign. */
        void turn(int slot, long v, int sign) {
            int mark = hash(MARK, slot, v);
            for (int j = 0; j < CELLS_OF_ROW; j++) {
                int cell = cellOf(j, hash(j, slot, v));
                if (cell >= 0 && cell < MOST_CELLS) {
                    counts[cell] += sign;
                    keys[cell] ^= slot;
                    values[cell] ^= v;
                    marks[cell] ^= mark;
                }
            }
        }

        void peel() {
            for (int i = 0; i < SLOTS; i++) {
                int cell = firstPure();
                if (cell == NONE) {
                    return;
                }
                int sign = counts[cell];
                int slot = keys[cell];
                long v = values[cell];
                tell(sign == 1 ? 0 : 1, slot, v);
                turn(slot, v, -sign);
            }
        }

        boolean isZero() {
            for (int cell = 0; cell < MOST_CELLS; cell++) {
                if (counts[cell] != 0 || keys[cell] != 0 || values[cell] != 0 || marks[cell] != 0) {
                    return false;
                }
            }
            return true;
        }

        private int firstPure() {
            for (int cell = 0; cell < MOST_CELLS; cell++) {
                if (isPure(cell)) {
                    return cell;
                }
            }
            return NONE;
        }

        private boolean isPure(int cell) {
            if (counts[cell] != 1 && counts[cell] != -1) {
                return false;
            }
            if (keys[cell] < 0 || keys[cell] >= SLOTS) {
                return false;
            }
            return marks[cell] == hash(MARK, keys[cell], values[cell]);
        }

        private void tell(int side, int slot, long v) {
            if (foundSize < SLOTS) {
                foundSides[foundSize] = side;
                foundSlots[foundSize] = slot;
                foundValues[foundSize] = v;
                foundSize++;
            }
        }

        private int cellOf(int j, int h) {
            if (third < 1) {
                return NONE;
            }
            long unsigned = h & 0xffffffffL;
            return j * third + (int) (unsigned % third);
        }

        private static int hash(int j, int slot, long v) {
            return mixRow(mix(0, j, 1), slot, v);
        }
    }
}
