import java.io.ByteArrayOutputStream;
import java.nio.ByteBuffer;
import java.security.MessageDigest;
import java.security.NoSuchAlgorithmException;
import java.util.ArrayList;
import java.util.Arrays;
import java.util.HashSet;
import java.util.List;
import java.util.NoSuchElementException;
import java.util.Random;
import java.util.Set;
import java.util.TreeMap;
import java.util.TreeSet;

/** Runs of 512 calls, chosen by seeds; each answer is compared with that of a slow model that follows the document's words. */
public final class ModelTest {
    private static final int CALLS = 512;
    private static final int RUNS = 400;

    /** The document's words, as plainly as they can be written with the Java library. */
    private static final class Model {
        record Cell(int count, int key, long v, int mark) {
            Cell with(int sign, int otherKey, long otherV, int otherMark) {
                return new Cell(count + sign, key ^ otherKey, v ^ otherV, mark ^ otherMark);
            }
        }

        record Found(int side, int key, long v) {
        }

        final List<TreeMap<Integer, Long>> rows = List.of(new TreeMap<>(), new TreeMap<>());
        final List<Set<Integer>> held = List.of(new HashSet<>(), new HashSet<>());
        final byte[][][] digests = new byte[2][64][32];
        final int[][] sums = new int[2][64];
        TreeSet<Integer> open = null;
        int rounds = -1;
        final List<int[]> told = new ArrayList<>();
        List<Found> found = new ArrayList<>();

        Model() {
            for (Set<Integer> nodes : held) {
                nodes.addAll(List.of(0, 1, 2, 3));
            }
        }

        static boolean side(int side) {
            return side == 0 || side == 1;
        }

        static boolean place(int side, int node, int number) {
            return side(side) && 0 <= node && node <= 3 && 1 <= number && number <= 64;
        }

        static byte[] bytes(int key, long v) {
            return ByteBuffer.allocate(10).put((byte) (key / 64)).put((byte) (key % 64 + 1)).putLong(v).array();
        }

        static int s(byte[] text) {
            int s = 0;
            for (byte b : text) {
                int x = s ^ Byte.toUnsignedInt(b);
                s = (x << 7 | x >>> 25) * 668265263;
            }
            return s;
        }

        static byte[] sha(byte[] text) {
            try {
                return MessageDigest.getInstance("SHA-256").digest(text);
            } catch (NoSuchAlgorithmException e) {
                throw new IllegalStateException(e);
            }
        }

        boolean has(int side, int node, int number) {
            return place(side, node, number) && rows.get(side).containsKey(64 * node + number - 1);
        }

        TreeMap<Integer, Long> counting(int side, int range) {
            TreeMap<Integer, Long> some = new TreeMap<>();
            rows.get(side).forEach((key, v) -> {
                int at = 32 + 8 * (key / 64) + key % 64 / 8;
                while (at > range) {
                    at /= 2;
                }
                if (at == range && held.get(0).contains(key / 64) && held.get(1).contains(key / 64)) {
                    some.put(key, v);
                }
            });
            return some;
        }

        byte[] leafText(int side, int leaf) {
            ByteArrayOutputStream text = new ByteArrayOutputStream();
            counting(side, leaf).forEach((key, v) -> text.writeBytes(bytes(key, v)));
            return text.toByteArray();
        }

        byte[] leafDigest(int side, int leaf) {
            byte[] text = leafText(side, leaf);
            return text.length == 0 ? new byte[32] : sha(text);
        }

        void make(int side, int range) {
            if (counting(side, range).isEmpty()) {
                digests[side][range] = new byte[32];
                sums[side][range] = 0;
            } else if (range >= 32) {
                digests[side][range] = leafDigest(side, range);
                sums[side][range] = s(leafText(side, range));
            } else {
                digests[side][range] = sha(ByteBuffer.allocate(64).put(digests[side][2 * range])
                    .put(digests[side][2 * range + 1]).array());
                sums[side][range] = s(ByteBuffer.allocate(8).putInt(sums[side][2 * range])
                    .putInt(sums[side][2 * range + 1]).array());
            }
        }

        void makeUp(int side, int leaf) {
            for (int range = leaf; range > 0; range /= 2) {
                make(side, range);
            }
        }

        long row(int side, int node, int number, long v) {
            if (!place(side, node, number)) {
                throw new IllegalArgumentException();
            }
            rows.get(side).put(64 * node + number - 1, v);
            makeUp(side, 32 + 8 * node + (number - 1) / 8);
            return rows.get(side).size();
        }

        boolean drop(int side, int node, int number) {
            if (!has(side, node, number)) {
                return false;
            }
            rows.get(side).remove(64 * node + number - 1);
            makeUp(side, 32 + 8 * node + (number - 1) / 8);
            return true;
        }

        boolean hold(int side, int node, boolean on) {
            if (!place(side, node, 1) || held.get(side).contains(node) == on) {
                return false;
            }
            if (on) {
                held.get(side).add(node);
            } else {
                held.get(side).remove(node);
            }
            for (int leaf = 32 + 8 * node; leaf < 40 + 8 * node; leaf++) {
                makeUp(0, leaf);
                makeUp(1, leaf);
            }
            return true;
        }

        boolean poke(int side, int node, int number, long mask) {
            if (!has(side, node, number) || mask == 0) {
                return false;
            }
            rows.get(side).merge(64 * node + number - 1, mask, (a, b) -> a ^ b);
            return true;
        }

        long get(int side, int node, int number) {
            if (!has(side, node, number)) {
                throw new NoSuchElementException();
            }
            return rows.get(side).get(64 * node + number - 1);
        }

        void begin() {
            open = new TreeSet<>(Set.of(1));
            rounds = 0;
            told.clear();
        }

        int round() {
            if (open == null || open.isEmpty()) {
                throw new IllegalStateException();
            }
            TreeSet<Integer> next = new TreeSet<>();
            for (int range : open) {
                if (Arrays.equals(digests[0][range], digests[1][range])) {
                    continue;
                }
                if (range < 32) {
                    next.addAll(List.of(2 * range, 2 * range + 1));
                    continue;
                }
                TreeMap<Integer, Long> left = counting(0, range);
                TreeMap<Integer, Long> right = counting(1, range);
                TreeSet<Integer> keys = new TreeSet<>(left.keySet());
                keys.addAll(right.keySet());
                for (int key : keys) {
                    int kind = !right.containsKey(key) ? 0 : !left.containsKey(key) ? 1 : 2;
                    if (kind != 2 || !left.get(key).equals(right.get(key))) {
                        told.add(new int[] {kind, key / 64, key % 64 + 1});
                    }
                }
            }
            open = next;
            rounds++;
            return next.size();
        }

        int differ(int k, int what) {
            return k < 0 || k >= told.size() || what < 0 || what > 2 ? -1 : told.get(k)[what];
        }

        static int h(int j, int key, long v) {
            return s(ByteBuffer.allocate(11).put((byte) j).put(bytes(key, v)).array());
        }

        static void turn(Cell[] cells, int key, long v, int sign) {
            int third = cells.length / 3;
            for (int j = 0; j < 3; j++) {
                int at = j * third + Integer.remainderUnsigned(h(j, key, v), third);
                cells[at] = cells[at].with(sign, key, v, h(3, key, v));
            }
        }

        int table(int n) {
            if (n < 6 || n > 63 || n % 3 != 0) {
                throw new IllegalArgumentException();
            }
            Cell[] cells = new Cell[n];
            Arrays.fill(cells, new Cell(0, 0, 0, 0));
            counting(0, 1).forEach((key, v) -> turn(cells, key, v, 1));
            counting(1, 1).forEach((key, v) -> turn(cells, key, v, -1));
            found = new ArrayList<>();
            for (int at = 0; at < n && found.size() < 256; at++) {
                Cell cell = cells[at];
                if (Math.abs(cell.count) == 1 && cell.mark == h(3, cell.key, cell.v)) {
                    found.add(new Found(cell.count == 1 ? 0 : 1, cell.key, cell.v));
                    turn(cells, cell.key, cell.v, -cell.count);
                    at = -1;
                }
            }
            Cell none = new Cell(0, 0, 0, 0);
            return Arrays.stream(cells).allMatch(none::equals) ? found.size() : -1 - found.size();
        }

        int found(int k, int what) {
            if (k < 0 || k >= found.size()) {
                return -1;
            }
            Found one = found.get(k);
            return what == 0 ? one.side : what == 1 ? one.key / 64 : what == 2 ? one.key % 64 + 1 : -1;
        }

        long foundValue(int k) {
            if (k < 0 || k >= found.size()) {
                throw new NoSuchElementException();
            }
            return found.get(k).v;
        }

        int digest(int side, int range, int i) {
            if (!side(side) || range < 1 || range > 63 || i < 0 || i > 31) {
                throw new ArrayIndexOutOfBoundsException();
            }
            return digests[side][range][i] & 255;
        }

        int sum(int side, int range) {
            if (!side(side) || range < 1 || range > 63) {
                throw new ArrayIndexOutOfBoundsException();
            }
            return sums[side][range];
        }

        int broken(int side) {
            for (int leaf = 32; side(side) && leaf < 64; leaf++) {
                if (!Arrays.equals(digests[side][leaf], leafDigest(side, leaf))) {
                    return leaf;
                }
            }
            return -1;
        }

        int anew(int side) {
            if (!side(side)) {
                return -1;
            }
            int changed = 0;
            for (int range = 63; range > 0; range--) {
                byte[] before = digests[side][range];
                make(side, range);
                changed += Arrays.equals(before, digests[side][range]) ? 0 : 1;
            }
            return changed;
        }

        int leaf(int range, int what) {
            if (range < 1 || range > 63 || what < 0 || what > 4) {
                return -1;
            }
            if (what > 2) {
                return counting(what - 3, range).size();
            }
            TreeSet<Integer> nodes = new TreeSet<>();
            TreeSet<Integer> numbers = new TreeSet<>();
            for (int key = 0; key < 256; key++) {
                int at = 32 + key / 8;
                while (at > range) {
                    at /= 2;
                }
                if (at == range) {
                    nodes.add(key / 64);
                    numbers.add(key % 64 + 1);
                }
            }
            return what == 0 ? nodes.size() > 1 ? -1 : nodes.first() : what == 1 ? numbers.first() : numbers.last();
        }
    }

    /** The arguments of a run: how wide its rows lie, and how often an argument is a wrong one. */
    private static final class Chooser {
        private static final int[] WILD = {
            -1, -2, -8, 0, 1, 2, 3, 4, 5, 31, 32, 33, 63, 64, 65, 127, 128, 255, 256, 257, 511, 512,
            Integer.MIN_VALUE, Integer.MIN_VALUE + 1, Integer.MAX_VALUE, 1 << 30, 1 << 26, -1 << 26,
        };
        private static final long[] VALUES = {0, 1, -1, 2, 255, 256, 128, Long.MIN_VALUE, Long.MAX_VALUE, 1L << 32};
        private final Random random;
        private final int numbers;
        private final int nodes;
        private final int wildOf;

        Chooser(long seed) {
            random = new Random(seed);
            numbers = 1 + random.nextInt(64);
            nodes = 1 + random.nextInt(4);
            wildOf = random.nextBoolean() ? 12 : 200;
        }

        int from(int least, int most) {
            if (random.nextInt(wildOf) == 0) {
                return random.nextInt(8) == 0 ? random.nextInt() : WILD[random.nextInt(WILD.length)];
            }
            return least + random.nextInt(most - least + 1);
        }

        int number() {
            return from(65 - numbers, 64);
        }

        int node() {
            return from(0, nodes - 1);
        }

        long value() {
            int kind = random.nextInt(4);
            return kind == 0 ? VALUES[random.nextInt(VALUES.length)] : kind == 1 ? random.nextLong() : random.nextInt(3);
        }
    }

    private static String answer(DigestTrees x, Model m, int call, long[] a) {
        boolean real = x != null;
        try {
            switch (call) {
                case 0: return "" + (real ? x.row((int) a[0], (int) a[1], (int) a[2], a[3]) : m.row((int) a[0], (int) a[1], (int) a[2], a[3]));
                case 1: return "" + (real ? x.drop((int) a[0], (int) a[1], (int) a[2]) : m.drop((int) a[0], (int) a[1], (int) a[2]));
                case 2: return "" + (real ? x.hold((int) a[0], (int) a[1], a[3] == 1) : m.hold((int) a[0], (int) a[1], a[3] == 1));
                case 3: return "" + (real ? x.poke((int) a[0], (int) a[1], (int) a[2], a[3]) : m.poke((int) a[0], (int) a[1], (int) a[2], a[3]));
                case 4: return "" + (real ? x.get((int) a[0], (int) a[1], (int) a[2]) : m.get((int) a[0], (int) a[1], (int) a[2]));
                case 5:
                    if (real) {
                        x.begin();
                    } else {
                        m.begin();
                    }
                    return "";
                case 6: return "" + (real ? x.round() : m.round());
                case 7: return "" + (real ? x.rounds() : m.rounds);
                case 8: return "" + (real ? x.differ((int) a[4], (int) a[5]) : m.differ((int) a[4], (int) a[5]));
                case 9: return "" + (real ? x.equal() : Arrays.equals(m.digests[0][1], m.digests[1][1]));
                case 10: return "" + (real ? x.table((int) a[7]) : m.table((int) a[7]));
                case 11: return "" + (real ? x.found((int) a[4], (int) a[5]) : m.found((int) a[4], (int) a[5]));
                case 12: return "" + (real ? x.foundValue((int) a[4]) : m.foundValue((int) a[4]));
                case 13: return "" + (real ? x.digest((int) a[0], (int) a[6], (int) a[8]) : m.digest((int) a[0], (int) a[6], (int) a[8]));
                case 14: return "" + (real ? x.sum((int) a[0], (int) a[6]) : m.sum((int) a[0], (int) a[6]));
                case 15: return "" + (real ? x.broken((int) a[0]) : m.broken((int) a[0]));
                case 16: return "" + (real ? x.anew((int) a[0]) : m.anew((int) a[0]));
                default: return "" + (real ? x.leaf((int) a[6], (int) a[9]) : m.leaf((int) a[6], (int) a[9]));
            }
        } catch (RuntimeException e) {
            return "throws." + e.getClass().getSimpleName();
        }
    }

    private static final String[] NAMES = {
        "row", "drop", "hold", "poke", "get", "begin", "round", "rounds", "differ", "equal", "table", "found",
        "foundValue", "digest", "sum", "broken", "anew", "leaf",
    };

    /** How often each call comes, in each of the kinds of runs. */
    private static final int[][] WEIGHTS = {
        {20, 5, 3, 5, 2, 2, 12, 2, 8, 4, 4, 6, 3, 6, 6, 3, 2, 4},
        {60, 2, 1, 1, 1, 1, 6, 1, 4, 2, 4, 6, 3, 3, 3, 1, 1, 2},
        {10, 6, 8, 12, 2, 3, 15, 1, 4, 4, 2, 2, 1, 8, 8, 6, 5, 2},
    };

    private static int choose(int[] weights, Random random) {
        int left = random.nextInt(Arrays.stream(weights).sum());
        int call = 0;
        while (left >= weights[call]) {
            left -= weights[call];
            call++;
        }
        return call;
    }

    private static long[] arguments(Chooser chooser, Model m, int call) {
        long v = call == 2 ? chooser.random.nextInt(2) : chooser.value();
        int most = Math.max(1, Math.max(m.told.size(), m.found.size()));
        int cells = chooser.random.nextInt(10) == 0 ? chooser.from(5, 64) : 3 * chooser.from(2, 21);
        return new long[] {
            chooser.from(0, 1), chooser.node(), chooser.number(), v, chooser.from(0, most),
            chooser.from(0, 2), chooser.from(1, 63), cells, chooser.from(0, 31), chooser.from(0, 4),
        };
    }

    private static boolean runs(int seed) {
        Chooser chooser = new Chooser(seed);
        DigestTrees x = new DigestTrees();
        Model m = new Model();
        int[] weights = WEIGHTS[seed % WEIGHTS.length];
        long[] lastRow = null;
        for (int i = 0; i < CALLS; i++) {
            int call = choose(weights, chooser.random);
            long[] a = arguments(chooser, m, call);
            // Most rows come to both sides, so that the sides are near to one another.
            if (lastRow != null && chooser.random.nextInt(4) != 0) {
                call = 0;
                a = lastRow;
                a[0] = 1 - a[0];
                lastRow = null;
            } else {
                lastRow = call == 0 ? a : null;
            }
            String due = answer(null, m, call, a);
            String got = answer(x, null, call, a);
            if (!got.equals(due)) {
                System.out.println("seed " + seed + ", call " + i + ", " + NAMES[call] + " of " + Arrays.toString(a)
                    + " answered " + got + ", due is " + due);
                return false;
            }
            seen.add(NAMES[call] + (due.startsWith("throws") ? " " + due : ""));
        }
        return allIsAlike(seed, x, m);
    }

    private static boolean allIsAlike(int seed, DigestTrees x, Model m) {
        for (int side = 0; side < 2; side++) {
            for (int range = 1; range < 64; range++) {
                boolean alike = x.sum(side, range) == m.sum(side, range);
                for (int i = 0; i < 32; i++) {
                    alike &= x.digest(side, range, i) == m.digest(side, range, i);
                }
                if (!alike) {
                    System.out.println("seed " + seed + ", side " + side + ", range " + range + " is kept otherwise");
                    return false;
                }
            }
        }
        return true;
    }

    private static final Set<String> seen = new TreeSet<>();

    public static void main(String[] args) {
        int wrong = 0;
        for (int seed = 0; seed < RUNS; seed++) {
            if (!runs(seed)) {
                wrong++;
            }
        }
        // Every call, and every exception of the document, must have come.
        if (seen.size() != NAMES.length + 7) {
            wrong++;
            System.out.println("calls that came: " + seen);
        }
        System.out.println(wrong == 0 ? "all runs are as due" : wrong + " runs are not as due");
        if (wrong != 0) {
            System.exit(1);
        }
    }
}
