import java.nio.ByteBuffer;
import java.security.MessageDigest;
import java.security.NoSuchAlgorithmException;
import java.util.function.Consumer;
import java.util.function.Supplier;

/**
 * How the boundary cases are tested, sentence by sentence of the document. No object is asked more than
 * 512 calls, as later ones are free: what needs more of them makes the same object again.
 */
class Boundaries {
    static final int MIN = Integer.MIN_VALUE;
    static final int MAX = Integer.MAX_VALUE;
    // Beside the neighbours: numbers that look right once a product or a cast has wrapped around.
    static final int[] NO_SIDES = {-1, 2, 3, 256, 257, 1 << 16, MIN, MIN + 1, MAX};
    static final int[] NO_NODES = {-1, -4, 4, 5, 64, 256, 259, 1 << 26, 1 << 29, -1 << 26, 1 << 30, MIN, MAX};
    static final int[] NO_NUMBERS = {0, -1, -7, -63, -64, 65, 66, 72, 128, 257, 320, MIN, MIN + 1, MAX};
    static final int[] NO_RANGES = {0, -1, -32, -63, 64, 65, 127, 128, 257, 1 << 29 | 1, 1 << 30, MIN, MIN + 1, MAX};
    static final int[] NO_BYTES = {-1, -8, -32, 32, 33, 64, 256, 1 << 30, MIN, MAX};
    static final int[] NO_PLACES = {-1, -2, -256, MIN, MIN + 1, MAX, MAX - 1, 256, 257, 1000, 1 << 30};
    static final int[] NO_CELLS = {
        5, 4, 3, 2, 1, 0, -1, -3, -6, -9, -63, 7, 8, 10, 11, 61, 62, 64, 65, 66, 69, 126, 256, 262,
        MIN, MIN + 2, MAX, MAX - 1,
    };

    static final String ILLEGAL = "throws.IllegalArgumentException";
    static final String NO_ELEMENT = "throws.NoSuchElementException";
    static final String NO_STATE = "throws.IllegalStateException";
    static final String NO_INDEX = "throws.ArrayIndexOutOfBoundsException";
    static final String NOTHING = "0".repeat(64);

    static final String ALL_AMID = all(Boundaries::amid);
    static final String ALL_ENDED = all(Boundaries::ended);

    // More than there can be: so that a test of a broken class ends too.
    static final int MOST_ROUNDS = 10;
    static final int MOST_ROWS = 300;

    static int wrong = 0;
    static int checks = 0;
    static String words = "";

    /** Ends the program: with exit code 1 if an answer was not as due. */
    static void end() {
        System.out.println(wrong == 0 ? "all boundary cases are as due" : wrong + " answers are not as due");
        if (wrong != 0) {
            System.exit(1);
        }
    }

    static void sentence(String text, Runnable test) {
        words = text;
        int before = checks;
        test.run();
        if (checks == before) {
            wrong++;
            System.out.println(words + ": nothing was asked");
        }
    }

    static String answer(Supplier<Object> call) {
        try {
            return String.valueOf(call.get());
        } catch (RuntimeException e) {
            return "throws." + e.getClass().getSimpleName();
        }
    }

    static void due(String call, Supplier<Object> got, Object want) {
        same(call, answer(got), want);
    }

    static void same(String call, Object got, Object want) {
        checks++;
        if (!String.valueOf(got).equals(String.valueOf(want))) {
            wrong++;
            System.out.println(words + ": " + call + " answered " + got + ", due is " + want);
        }
    }

    static void other(String call, Object got, Object not) {
        checks++;
        if (String.valueOf(got).equals(String.valueOf(not))) {
            wrong++;
            System.out.println(words + ": " + call + " answered " + got + ", due is another one");
        }
    }

    /** A call that is refused answers so, and leaves everything as it is. */
    static void refused(String call, Calls refusal, Object want) {
        refusedOf(Boundaries::amid, ALL_AMID, call, refusal, want);
        refusedOf(Boundaries::ended, ALL_ENDED, call, refusal, want);
    }

    static void refusedOf(Supplier<DigestTrees> made, String before, String call, Calls refusal, Object want) {
        due(call, () -> refusal.on(made.get()), want);
        same(call + " leaves all as it is", all(() -> {
            DigestTrees x = made.get();
            answer(() -> refusal.on(x));
            return x;
        }), before);
    }

    interface Calls {
        Object on(DigestTrees x);
    }

    /** Rows, a node that one side does not hold, a poke, a table, and a walk amid its rounds. */
    static DigestTrees amid() {
        DigestTrees x = new DigestTrees();
        x.row(0, 0, 1, 1);
        x.row(0, 1, 64, -1);
        x.row(0, 3, 33, Long.MIN_VALUE);
        x.row(0, 3, 64, 6);
        x.row(1, 3, 64, 6);
        x.row(0, 0, 8, 77);
        x.row(1, 0, 8, 78);
        x.row(1, 0, 2, Long.MAX_VALUE);
        x.row(0, 2, 9, 5);
        x.row(1, 2, 9, 6);
        x.hold(1, 2, false);
        x.poke(0, 3, 64, 1);
        x.table(21);
        x.begin();
        x.round();
        x.round();
        return x;
    }

    static DigestTrees ended() {
        DigestTrees x = amid();
        x.row(1, 1, 1, 4);
        x.poke(1, 1, 1, 4);
        x.table(24);
        for (int i = 2; i < 6; i++) {
            x.round();
        }
        return x;
    }

    /** All that can be asked of an object. */
    static String all(Supplier<DigestTrees> made) {
        StringBuilder text = new StringBuilder();
        for (int side = 0; side < 2; side++) {
            text.append(allRows(made.get(), side)).append('\n');
            for (int first = 1; first < 64; first += 9) {
                DigestTrees x = made.get();
                for (int range = first; range < first + 9; range++) {
                    text.append(hex(x, side, range)).append(' ');
                }
            }
        }
        text.append('\n').append(allRanges(made.get())).append('\n');
        text.append(allElse(made.get())).append('\n');
        return text.append(allHeld(made.get())).toString();
    }

    static String allRows(DigestTrees x, int side) {
        StringBuilder text = new StringBuilder();
        for (int i = 0; i < 256; i++) {
            int at = i;
            text.append(answer(() -> x.get(side, at / 64, at % 64 + 1)).replace(NO_ELEMENT, "-")).append(' ');
        }
        return text.toString();
    }

    static String allRanges(DigestTrees x) {
        StringBuilder text = new StringBuilder();
        for (int range = 1; range < 64; range++) {
            text.append(x.sum(0, range)).append(' ').append(x.sum(1, range)).append(' ')
                .append(x.leaf(range, 3)).append(' ').append(x.leaf(range, 4)).append(' ');
        }
        return text.toString();
    }

    static String allElse(DigestTrees x) {
        StringBuilder text = new StringBuilder();
        text.append(x.equal()).append(' ').append(x.broken(0)).append(' ').append(x.broken(1));
        text.append(" found ").append(peeled(x)).append(" told ").append(told(x)).append(" rounds ").append(x.rounds());
        for (int i = 0; i < 8; i++) {
            text.append(' ').append(answer(x::round));
        }
        text.append(" told ").append(told(x));
        text.append(" anew ").append(x.anew(0)).append(' ').append(x.anew(1));
        text.append(" table ").append(x.table(63)).append(peeled(x));
        return text.toString();
    }

    static String allHeld(DigestTrees x) {
        StringBuilder text = new StringBuilder();
        for (int i = 0; i < 8; i++) {
            text.append(x.hold(i / 4, i % 4, true)).append(' ');
        }
        return text.append(x.row(0, 0, 1, 1)).append(' ').append(x.row(1, 0, 2, 1)).toString();
    }

    static String hex(DigestTrees x, int side, int range) {
        StringBuilder text = new StringBuilder();
        for (int i = 0; i < 32; i++) {
            text.append(String.format("%02x", x.digest(side, range, i)));
        }
        return text.toString();
    }

    static String told(DigestTrees x) {
        StringBuilder text = new StringBuilder();
        for (int k = 0; k < MOST_ROWS && x.differ(k, 0) != DigestTrees.NONE; k++) {
            text.append('(').append(x.differ(k, 0)).append(' ').append(x.differ(k, 1)).append(' ')
                .append(x.differ(k, 2)).append(')');
        }
        return text.toString();
    }

    static String walked(DigestTrees x) {
        StringBuilder text = new StringBuilder();
        x.begin();
        int open = 1;
        for (int i = 0; i < MOST_ROUNDS && open > 0; i++) {
            open = x.round();
            text.append(open).append(' ');
        }
        return text.append(told(x)).toString();
    }

    static String peeled(DigestTrees x) {
        StringBuilder text = new StringBuilder();
        for (int k = 0; k < MOST_ROWS && x.found(k, 0) != DigestTrees.NONE; k++) {
            text.append('(').append(x.found(k, 0)).append(' ').append(x.found(k, 1)).append(' ')
                .append(x.found(k, 2)).append(' ').append(x.foundValue(k)).append(')');
        }
        return text.toString();
    }

    static DigestTrees with(Consumer<DigestTrees> calls) {
        DigestTrees x = new DigestTrees();
        calls.accept(x);
        return x;
    }

    /** The first places of a side, each with a row. */
    static void fill(DigestTrees x, int side, int rows) {
        for (int i = 0; i < rows; i++) {
            x.row(side, i / 64, i % 64 + 1, 1000L + i);
        }
    }

    static int leafOf(int node, int number) {
        return 32 + 8 * node + (number - 1) / 8;
    }

    static byte[] bytes(int node, int number, long v) {
        return ByteBuffer.allocate(10).put((byte) node).put((byte) number).putLong(v).array();
    }

    static String sha(byte[]... parts) {
        try {
            MessageDigest made = MessageDigest.getInstance("SHA-256");
            for (byte[] part : parts) {
                made.update(part);
            }
            return toHex(made.digest());
        } catch (NoSuchAlgorithmException e) {
            throw new IllegalStateException(e);
        }
    }

    static String toHex(byte[] text) {
        StringBuilder hex = new StringBuilder();
        for (byte b : text) {
            hex.append(String.format("%02x", b));
        }
        return hex.toString();
    }

    static byte[] fromHex(String hex) {
        byte[] text = new byte[hex.length() / 2];
        for (int i = 0; i < text.length; i++) {
            text[i] = (byte) Integer.parseInt(hex.substring(2 * i, 2 * i + 2), 16);
        }
        return text;
    }

    static String above(String left, String right) {
        return sha(fromHex(left), fromHex(right));
    }

    static int s(byte[] text) {
        long s = 0;
        for (byte b : text) {
            long x = (s ^ (b & 0xffL)) & 0xffffffffL;
            s = (x << 7 | x >>> 25) & 0xffffffffL;
            s = s * 668265263L & 0xffffffffL;
        }
        return (int) s;
    }

    static int sumAbove(int left, int right) {
        return s(ByteBuffer.allocate(8).putInt(left).putInt(right).array());
    }

    /** Two leaves of node 2 poked, 49 and 50, each with one row of side 0. */
    static DigestTrees poked() {
        DigestTrees x = with(y -> y.row(0, 2, 9, 5));
        x.row(0, 2, 17, 6);
        x.row(0, 1, 1, 7);
        x.poke(0, 2, 9, 1);
        x.poke(0, 2, 17, 1);
        return x;
    }

    static void numbers(DigestTrees x, int side, long... numberAndV) {
        for (int i = 0; i < numberAndV.length; i += 2) {
            x.row(side, 0, (int) numberAndV[i], numberAndV[i + 1]);
        }
    }

    /** A table of 6 cells of rows of side 0, and of others of a given side. */
    static String counted(long[] zero, long number, long v, int side, long... more) {
        DigestTrees x = new DigestTrees();
        numbers(x, 0, zero);
        numbers(x, side, number, v);
        numbers(x, side, more);
        return x.table(6) + peeled(x);
    }
}
