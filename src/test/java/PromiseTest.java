import java.util.NoSuchElementException;

/** Each promise by hand: ordinary calls, the edges that the document names, wrong arguments. */
public final class PromiseTest {
    private static final int[] WRONG_SIDES = {-1, 2, 3, Integer.MIN_VALUE, Integer.MAX_VALUE};
    private static final int[] WRONG_NODES = {-1, 4, 64, Integer.MIN_VALUE, Integer.MAX_VALUE};
    private static final int[] WRONG_NUMBERS = {-1, 0, 65, Integer.MIN_VALUE, Integer.MAX_VALUE};
    private static final int[] WRONG_RANGES = {-1, 0, 64, 65, Integer.MIN_VALUE, Integer.MAX_VALUE};
    private static final int[] WRONG_PLACES = {-1, 256, 1000, Integer.MIN_VALUE, Integer.MAX_VALUE};
    private static final String ZERO_DIGEST = "0".repeat(64);

    private static int wrong = 0;
    private static String part = "";

    private interface Call {
        void run();
    }

    public static void main(String[] args) {
        promise1();
        promise2();
        promise3();
        promise4();
        promise5();
        promise6();
        promise7();
        promise8();
        promise9();
        promise10();
        promise11();
        promise12();
        promise13();
        promise14();
        promise15();
        promise16();
        promise17();
        promise18();
        promise19();
        System.out.println(wrong == 0 ? "all promises are as due" : wrong + " answers are not as due");
        if (wrong != 0) {
            System.exit(1);
        }
    }

    private static void due(String call, Object got, Object want) {
        if (!got.equals(want)) {
            wrong++;
            System.out.println(part + ": " + call + " answered " + got + ", due is " + want);
        }
    }

    private static void dueThrow(String call, Class<?> want, Call body) {
        Class<?> got = null;
        try {
            body.run();
        } catch (RuntimeException e) {
            got = e.getClass();
        }
        if (got != want) {
            wrong++;
            System.out.println(part + ": " + call + " threw " + got + ", due is " + want);
        }
    }

    private static String digestOf(DigestTrees x, int side, int range) {
        StringBuilder text = new StringBuilder();
        for (int i = 0; i < 32; i++) {
            int b = x.digest(side, range, i);
            if (b < 0 || b > 255) {
                due("digest() in 0 .. 255", b, "0 .. 255");
            }
            text.append(String.format("%02x", b));
        }
        return text.toString();
    }

    private static String walked(DigestTrees x) {
        StringBuilder text = new StringBuilder();
        x.begin();
        int open = 1;
        while (open > 0) {
            open = x.round();
            text.append(open).append(' ');
        }
        return text.append(told(x)).toString();
    }

    private static String told(DigestTrees x) {
        StringBuilder text = new StringBuilder();
        for (int k = 0; x.differ(k, 0) != DigestTrees.NONE; k++) {
            text.append('(').append(x.differ(k, 0)).append(' ').append(x.differ(k, 1)).append(' ')
                .append(x.differ(k, 2)).append(')');
        }
        return text.toString();
    }

    private static String peeled(DigestTrees x) {
        StringBuilder text = new StringBuilder();
        for (int k = 0; x.found(k, 0) != DigestTrees.NONE; k++) {
            text.append('(').append(x.found(k, 0)).append(' ').append(x.found(k, 1)).append(' ')
                .append(x.found(k, 2)).append(' ').append(x.foundValue(k)).append(')');
        }
        return text.toString();
    }

    /** Rows whose digests, sums and tables were worked out by another program, in another language. */
    private static DigestTrees sample() {
        DigestTrees x = new DigestTrees();
        x.row(0, 0, 1, 1);
        x.row(0, 1, 64, -1);
        x.row(0, 3, 33, Long.MIN_VALUE);
        x.row(0, 2, 8, 77);
        x.row(1, 2, 8, 78);
        x.row(1, 0, 2, Long.MAX_VALUE);
        x.row(0, 2, 9, 5);
        x.row(1, 2, 9, 5);
        return x;
    }

    private static DigestTrees full(int rows) {
        DigestTrees x = new DigestTrees();
        for (int i = 0; i < rows; i++) {
            x.row(0, i / 64, i % 64 + 1, 1000L * (i / 64) + i % 64 + 1);
        }
        return x;
    }

    private static void promise1() {
        part = "1 a new object";
        DigestTrees x = new DigestTrees();
        due("equal()", x.equal(), true);
        due("rounds()", x.rounds(), -1);
        due("differ(0, 0)", x.differ(0, 0), -1);
        due("found(0, 0)", x.found(0, 0), -1);
        dueThrow("round()", IllegalStateException.class, x::round);
        dueThrow("foundValue(0)", NoSuchElementException.class, () -> x.foundValue(0));
        for (int side = 0; side < 2; side++) {
            due("broken", x.broken(side), -1);
            due("anew", x.anew(side), 0);
            for (int range = 1; range < 64; range++) {
                due("digest of " + range, digestOf(x, side, range), ZERO_DIGEST);
                due("sum of " + range, x.sum(side, range), 0);
                due("rows of " + range, x.leaf(range, 3 + side), 0);
            }
            for (int node = 0; node < 4; node++) {
                due("hold at first", x.hold(side, node, true), false);
            }
        }
        DigestTrees y = new DigestTrees();
        y.row(0, 0, 1, 1);
        due("objects are apart", new DigestTrees().equal(), true);
    }

    private static void promise2() {
        part = "2 row";
        DigestTrees x = new DigestTrees();
        due("first", x.row(0, 0, 1, 5), 1);
        due("in place", x.row(0, 0, 1, 6), 1);
        due("get", x.get(0, 0, 1), 6L);
        due("last of all", x.row(0, 3, 64, -1), 2);
        due("the other side", x.row(1, 3, 64, -1), 1);
        x.hold(0, 2, false);
        due("of a node that is not held", x.row(0, 2, 64, 0), 3);
        due("it does not count", x.leaf(55, 3), 0);
        due("but is there", x.get(0, 2, 64), 0L);
        for (int bad : WRONG_SIDES) {
            dueThrow("side " + bad, IllegalArgumentException.class, () -> x.row(bad, 0, 1, 0));
        }
        for (int bad : WRONG_NODES) {
            dueThrow("node " + bad, IllegalArgumentException.class, () -> x.row(0, bad, 1, 0));
        }
        for (int bad : WRONG_NUMBERS) {
            dueThrow("number " + bad, IllegalArgumentException.class, () -> x.row(0, 1, bad, 0));
        }
        due("wrong ones left nothing", x.row(0, 0, 1, 6), 3);
        DigestTrees y = new DigestTrees();
        for (int i = 0; i < 256; i++) {
            due("row " + i, y.row(1, i / 64, i % 64 + 1, i), i + 1);
        }
    }

    private static void promise3() {
        part = "3 drop";
        DigestTrees x = new DigestTrees();
        x.row(0, 1, 9, 5);
        due("of the other side", x.drop(1, 1, 9), false);
        due("of another number", x.drop(0, 1, 10), false);
        due("it goes", x.drop(0, 1, 9), true);
        due("twice", x.drop(0, 1, 9), false);
        due("digest", digestOf(x, 0, 1), ZERO_DIGEST);
        due("sum", x.sum(0, 41), 0);
        due("again", x.row(0, 1, 9, 5), 1);
        x.hold(1, 1, false);
        due("of a row that does not count", x.drop(0, 1, 9), true);
        due("it is gone", x.row(0, 0, 1, 0), 1);
        for (int bad : WRONG_SIDES) {
            due("side " + bad, x.drop(bad, 0, 1), false);
        }
        for (int bad : WRONG_NODES) {
            due("node " + bad, x.drop(0, bad, 1), false);
        }
        for (int bad : WRONG_NUMBERS) {
            due("number " + bad, x.drop(0, 0, bad), false);
        }
    }

    private static void promise4() {
        part = "4 hold";
        DigestTrees x = sample();
        String whole = digestOf(x, 0, 1);
        int sum = x.sum(0, 1);
        due("already", x.hold(0, 2, true), false);
        due("off", x.hold(1, 2, false), true);
        due("off already", x.hold(1, 2, false), false);
        for (int side = 0; side < 2; side++) {
            due("digest without it", digestOf(x, side, 6), ZERO_DIGEST);
            due("sum without it", x.sum(side, 6), 0);
            due("rows without it", x.leaf(6, 3 + side), 0);
        }
        due("range 1 follows", digestOf(x, 0, 1).equals(whole), false);
        due("other side off too", x.hold(0, 2, false), true);
        due("one on is not enough", x.hold(1, 2, true), true);
        due("digest still without it", digestOf(x, 1, 6), ZERO_DIGEST);
        due("both on", x.hold(0, 2, true), true);
        due("digest as before", digestOf(x, 0, 1), whole);
        due("sum as before", x.sum(0, 1), sum);
        x.poke(0, 2, 9, 1);
        x.hold(1, 2, false);
        x.hold(1, 2, true);
        due("a poke is found out", x.broken(0), -1);
        due("and is kept", digestOf(x, 0, 1).equals(whole), false);
        for (int bad : WRONG_SIDES) {
            due("side " + bad, x.hold(bad, 0, false), false);
        }
        for (int bad : WRONG_NODES) {
            due("node " + bad, x.hold(0, bad, false), false);
        }
    }

    private static void promise5() {
        part = "5 poke";
        DigestTrees x = sample();
        String leaf = digestOf(x, 0, 48);
        String whole = digestOf(x, 0, 1);
        int sum = x.sum(0, 48);
        due("mask 0", x.poke(0, 2, 8, 0), false);
        due("no row", x.poke(0, 2, 7, 1), false);
        due("no row of this side", x.poke(1, 0, 1, 1), false);
        due("poked", x.poke(0, 2, 8, Long.MIN_VALUE), true);
        due("v", x.get(0, 2, 8), 77L ^ Long.MIN_VALUE);
        due("leaf is kept", digestOf(x, 0, 48), leaf);
        due("sum is kept", x.sum(0, 48), sum);
        due("range 1 is kept", digestOf(x, 0, 1), whole);
        x.row(0, 2, 9, 5);
        due("a row of another leaf does not tell", digestOf(x, 0, 1), whole);
        x.drop(0, 2, 7);
        due("a drop that drops nothing does not tell", x.broken(0), 48);
        x.row(0, 2, 1, 4);
        x.drop(0, 2, 1);
        due("a row, a drop in the leaf tell", x.broken(0), -1);
        due("leaf is another", digestOf(x, 0, 48).equals(leaf), false);
        x.poke(0, 2, 8, Long.MIN_VALUE);
        x.row(0, 2, 8, 77);
        due("leaf as at first", digestOf(x, 0, 48), leaf);
        due("range 1 as at first", digestOf(x, 0, 1), whole);
        x.hold(0, 3, false);
        due("of a row that does not count", x.poke(0, 3, 33, 1), true);
        due("its v", x.get(0, 3, 33), Long.MIN_VALUE + 1);
        due("nothing is broken", x.broken(0), -1);
        for (int bad : WRONG_SIDES) {
            due("side " + bad, x.poke(bad, 0, 1, 1), false);
        }
        for (int bad : WRONG_NODES) {
            due("node " + bad, x.poke(0, bad, 1, 1), false);
        }
        for (int bad : WRONG_NUMBERS) {
            due("number " + bad, x.poke(0, 0, bad, 1), false);
        }
    }

    private static void promise6() {
        part = "6 get";
        DigestTrees x = sample();
        due("least v", x.get(0, 3, 33), Long.MIN_VALUE);
        due("greatest v", x.get(1, 0, 2), Long.MAX_VALUE);
        dueThrow("other side", NoSuchElementException.class, () -> x.get(1, 3, 33));
        x.drop(0, 3, 33);
        dueThrow("dropped", NoSuchElementException.class, () -> x.get(0, 3, 33));
        x.hold(0, 1, false);
        due("not held", x.get(0, 1, 64), -1L);
        for (int bad : WRONG_SIDES) {
            dueThrow("side " + bad, NoSuchElementException.class, () -> x.get(bad, 0, 1));
        }
        for (int bad : WRONG_NODES) {
            dueThrow("node " + bad, NoSuchElementException.class, () -> x.get(0, bad, 1));
        }
        for (int bad : WRONG_NUMBERS) {
            dueThrow("number " + bad, NoSuchElementException.class, () -> x.get(0, 0, bad));
        }
    }

    private static void promise7() {
        part = "7 begin";
        DigestTrees x = sample();
        String first = walked(x);
        due("again the same", walked(x), first);
        x.begin();
        due("differences are gone", x.differ(0, 0), -1);
        due("rounds", x.rounds(), 0);
        x.round();
        x.round();
        x.begin();
        due("in the midst", x.rounds(), 0);
        due("from range 1", x.round(), 2);
    }

    private static void promise8() {
        part = "8 round";
        DigestTrees x = new DigestTrees();
        x.begin();
        due("alike", x.round(), 0);
        dueThrow("ended", IllegalStateException.class, x::round);
        due("rounds stay", x.rounds(), 1);
        x.row(0, 0, 1, 1);
        dueThrow("ended, whatever comes", IllegalStateException.class, x::round);
        due("one row", walked(x), "2 2 2 2 2 0 (0 0 1)");
        due("sample", walked(sample()), "2 4 8 8 8 0 (0 0 1)(1 0 2)(0 1 64)(2 2 8)(0 3 33)");
        DigestTrees y = full(256);
        y.begin();
        int[] many = {2, 4, 8, 16, 32, 0};
        for (int due : many) {
            due("all differ", y.round(), due);
        }
        meanwhile();
    }

    private static void meanwhile() {
        DigestTrees x = new DigestTrees();
        x.row(0, 0, 1, 1);
        x.row(0, 3, 64, 1);
        x.begin();
        due("1", x.round(), 2);
        due("2 and 3", x.round(), 4);
        x.row(1, 3, 64, 1);
        due("7 is alike by now", x.round(), 2);
        x.row(0, 0, 64, 1);
        due("8 alone was to be looked at with 9", x.round(), 4);
        x.drop(0, 0, 1);
        due("19 alone", x.round(), 2);
        x.poke(0, 0, 64, 2);
        x.row(1, 0, 64, 3);
        due("leaves", x.round(), 0);
        due("by the digests kept, yet with the rows that are", told(x), "");
        due("rounds", x.rounds(), 6);
    }

    private static void promise9() {
        part = "9 rounds";
        DigestTrees x = sample();
        due("no walk", x.rounds(), -1);
        dueThrow("no walk", IllegalStateException.class, x::round);
        due("still none", x.rounds(), -1);
        x.begin();
        for (int i = 0; i < 6; i++) {
            due("before", x.rounds(), i);
            x.round();
        }
        due("ended", x.rounds(), 6);
        dueThrow("ended", IllegalStateException.class, x::round);
        due("no round more", x.rounds(), 6);
    }

    private static void promise10() {
        part = "10 differ";
        DigestTrees x = new DigestTrees();
        x.row(0, 1, 10, 1);
        x.row(0, 1, 9, 1);
        x.row(1, 1, 16, 1);
        x.row(0, 1, 12, 1);
        x.row(1, 1, 12, 1);
        x.row(0, 1, 11, 7);
        x.row(1, 1, 11, 8);
        due("in one leaf", walked(x), "2 2 2 2 2 0 (0 1 9)(0 1 10)(2 1 11)(1 1 16)");
        x.drop(0, 1, 9);
        due("as they were told", told(x), "(0 1 9)(0 1 10)(2 1 11)(1 1 16)");
        for (int bad : WRONG_PLACES) {
            due("place " + bad, x.differ(bad, 0), -1);
        }
        due("place 4", x.differ(4, 1), -1);
        for (int bad : new int[] {-1, 3, 4, Integer.MIN_VALUE, Integer.MAX_VALUE}) {
            due("what " + bad, x.differ(0, bad), -1);
        }
        x.poke(1, 1, 12, 1);
        due("a poked row is as it is", walked(x), "2 2 2 2 2 0 (0 1 10)(2 1 11)(2 1 12)(1 1 16)");
        x.hold(0, 1, false);
        due("none counts", walked(x), "0 ");
        DigestTrees y = full(256);
        walked(y);
        due("the last of 256", y.differ(255, 1) + " " + y.differ(255, 2), "3 64");
        due("no 257th", y.differ(256, 0), -1);
    }

    private static void promise11() {
        part = "11 equal";
        DigestTrees x = new DigestTrees();
        x.row(0, 2, 30, 9);
        due("a row more", x.equal(), false);
        x.row(1, 2, 31, 9);
        due("another number", x.equal(), false);
        x.row(1, 2, 30, 9);
        x.drop(1, 2, 31);
        due("alike", x.equal(), true);
        x.poke(1, 2, 30, 1);
        due("poked", x.equal(), true);
        x.anew(1);
        due("anew", x.equal(), false);
        x.hold(0, 2, false);
        due("it does not count", x.equal(), true);
    }

    private static void promise12() {
        part = "12 table";
        DigestTrees x = sample();
        int[] cells = {6, 9, 12, 15, 18, 21, 33, 63};
        int[] answers = {-2, -5, -5, -5, -5, 6, 6, 6};
        for (int i = 0; i < cells.length; i++) {
            due("table(" + cells[i] + ")", x.table(cells[i]), answers[i]);
        }
        for (int bad : new int[] {0, 3, 5, 7, 8, 10, 62, 64, 65, 66, -6, -3, Integer.MIN_VALUE, Integer.MAX_VALUE}) {
            dueThrow("table(" + bad + ")", IllegalArgumentException.class, () -> x.table(bad));
        }
        due("the latest one stays", x.found(5, 0), 0);
        due("no rows", new DigestTrees().table(6), 0);
        due("256 rows", full(256).table(63), -1);
        due("20 rows", full(20).table(63), 20);
        due("30 rows", full(30).table(63), 30);
        due("8 rows in 9", full(8).table(9), -3);
        DigestTrees y = full(64);
        for (int number = 1; number <= 64; number++) {
            y.row(1, 0, number, number);
        }
        due("alike", y.table(6), 0);
        y.poke(1, 0, 5, 1);
        due("poked: as the rows are", y.table(63), 2);
        y.hold(0, 0, false);
        due("none counts", y.table(63), 0);
        due("none is found", y.found(0, 0), -1);
        hashesAloneAreLeft();
    }

    /** Four rows in the same cells, whose counts, keys and v undo one another: only their h(3) do not. */
    private static void hashesAloneAreLeft() {
        DigestTrees x = new DigestTrees();
        x.row(0, 0, 2, 7);
        x.row(0, 0, 20, 7);
        x.row(1, 0, 34, 7);
        x.row(1, 0, 52, 7);
        due("h(3) alone is not 0", x.table(6), -1);
    }

    private static void promise13() {
        part = "13 found";
        DigestTrees x = sample();
        String most = "(0 0 1 1)(0 3 33 -9223372036854775808)(1 0 2 9223372036854775807)(1 2 8 78)(0 1 64 -1)(0 2 8 77)";
        x.table(21);
        due("table(21)", peeled(x), most);
        x.table(33);
        due("table(33)", peeled(x), "(0 0 1 1)(0 2 8 77)(1 0 2 9223372036854775807)(1 2 8 78)(0 1 64 -1)"
            + "(0 3 33 -9223372036854775808)");
        x.table(63);
        due("table(63)", peeled(x), "(0 0 1 1)(0 2 8 77)(1 2 8 78)(0 3 33 -9223372036854775808)"
            + "(1 0 2 9223372036854775807)(0 1 64 -1)");
        x.table(6);
        due("not done", peeled(x), "(1 0 2 9223372036854775807)");
        x.table(15);
        due("not done, table(15)", peeled(x), "(0 1 64 -1)(0 3 33 -9223372036854775808)(1 2 8 78)(0 0 1 1)");
        x.drop(0, 0, 1);
        dueThrow("table(7)", IllegalArgumentException.class, () -> x.table(7));
        due("of the latest", x.found(3, 2), 1);
        for (int bad : WRONG_PLACES) {
            due("place " + bad, x.found(bad, 0), -1);
        }
        due("place 4", x.found(4, 0), -1);
        for (int bad : new int[] {-1, 3, 4, Integer.MIN_VALUE, Integer.MAX_VALUE}) {
            due("what " + bad, x.found(0, bad), -1);
        }
    }

    private static void promise14() {
        part = "14 foundValue";
        DigestTrees x = sample();
        dueThrow("no table", NoSuchElementException.class, () -> x.foundValue(0));
        x.table(63);
        due("0", x.foundValue(0), 1L);
        due("3", x.foundValue(3), Long.MIN_VALUE);
        due("5", x.foundValue(5), -1L);
        x.row(0, 1, 64, 0);
        due("5 as it was", x.foundValue(5), -1L);
        dueThrow("6", NoSuchElementException.class, () -> x.foundValue(6));
        for (int bad : WRONG_PLACES) {
            dueThrow("place " + bad, NoSuchElementException.class, () -> x.foundValue(bad));
        }
        DigestTrees y = sample();
        y.table(63);
        y.table(6);
        due("0 of a table of one", y.foundValue(0), Long.MAX_VALUE);
        dueThrow("1 of a table of one", NoSuchElementException.class, () -> y.foundValue(1));
    }

    private static void promise15() {
        part = "15 digest";
        DigestTrees x = sample();
        due("0 1", digestOf(x, 0, 1), "41cd133a25e5d0ea4a6ea308ec991ba9139a90b8cdc569d992f30406490fcd4f");
        due("1 1", digestOf(x, 1, 1), "c8a5f629d6094136f24761f3ac430b27a25199efb5b2fc0e138f0aa120cd07df");
        due("0 32", digestOf(x, 0, 32), "36dd3485b6affcd5d59600c58aca5c1cdc2c01bb0a2956bfaa690d157bc9b2be");
        due("0 47", digestOf(x, 0, 47), "19749bc5ec3ad5849c518994b3bd5bfb72b50e5f32364cfcb3e1c24450cbd934");
        due("1 47", digestOf(x, 1, 47), ZERO_DIGEST);
        due("0 60", digestOf(x, 0, 60), "a8930fa3aa5be0bb73f664ca508887376add9cefe228e61952a3d9f13a2caf7e");
        due("1 3", digestOf(x, 1, 3), "c898196f5db09d1f4b12caf59eddd7c907c48c7045152a6c31a58bb8950e0433");
        due("256 rows", digestOf(full(256), 0, 1), "8e4a720507fc2a1a27854cc43a058129453dc95f6fb58c63fb0b0cac81d7dcec");
        DigestTrees y = new DigestTrees();
        for (int number = 8; number >= 1; number--) {
            y.row(0, 0, number, -number);
        }
        due("a full leaf", digestOf(y, 0, 32), "d54818cff5042d31cb82ab1ef4bbefbc4c8b0ca2b8b96310a0a04fb7b77fc1cd");
        for (int bad : WRONG_SIDES) {
            dueThrow("side " + bad, ArrayIndexOutOfBoundsException.class, () -> x.digest(bad, 1, 0));
        }
        for (int bad : WRONG_RANGES) {
            dueThrow("range " + bad, ArrayIndexOutOfBoundsException.class, () -> x.digest(0, bad, 0));
        }
        for (int bad : new int[] {-1, 32, 33, Integer.MIN_VALUE, Integer.MAX_VALUE}) {
            dueThrow("byte " + bad, ArrayIndexOutOfBoundsException.class, () -> x.digest(0, 1, bad));
        }
    }

    private static void promise16() {
        part = "16 sum";
        DigestTrees x = sample();
        int[] ranges = {60, 49, 48, 47, 32, 30, 16, 5, 3, 2, 1, 33, 63};
        int[] sums = {379596010, 2135775967, 1526039824, -1130860216, 661503612, -408240246, -1119086169,
            -2048405103, -1285370839, 312073892, -1467490714, 0, 0};
        for (int i = 0; i < ranges.length; i++) {
            due("sum(0, " + ranges[i] + ")", x.sum(0, ranges[i]), sums[i]);
        }
        due("sum(1, 1)", x.sum(1, 1), -185301128);
        due("256 rows", full(256).sum(0, 1), 355829809);
        x.poke(0, 0, 1, 1);
        due("as it is kept", x.sum(0, 1), -1467490714);
        x.anew(0);
        due("anew", x.sum(0, 1) == -1467490714, false);
        for (int bad : WRONG_SIDES) {
            dueThrow("side " + bad, ArrayIndexOutOfBoundsException.class, () -> x.sum(bad, 1));
        }
        for (int bad : WRONG_RANGES) {
            dueThrow("range " + bad, ArrayIndexOutOfBoundsException.class, () -> x.sum(0, bad));
        }
    }

    private static void promise17() {
        part = "17 broken";
        DigestTrees x = sample();
        due("none", x.broken(0), -1);
        x.poke(0, 3, 33, 1);
        due("60", x.broken(0), 60);
        x.poke(0, 2, 9, 1);
        due("49", x.broken(0), 49);
        due("the other side", x.broken(1), -1);
        x.poke(0, 2, 9, 1);
        due("back as it was", x.broken(0), 60);
        due("asking mends nothing", x.broken(0), 60);
        x.hold(1, 3, false);
        due("it does not count", x.broken(0), -1);
        DigestTrees y = full(256);
        y.poke(0, 3, 64, 1);
        due("the last", y.broken(0), 63);
        y.poke(0, 0, 1, 1);
        due("the first", y.broken(0), 32);
        for (int bad : WRONG_SIDES) {
            due("side " + bad, y.broken(bad), -1);
        }
    }

    private static void promise18() {
        part = "18 anew";
        DigestTrees x = sample();
        due("nothing", x.anew(0), 0);
        x.poke(0, 0, 1, 1);
        x.poke(0, 3, 33, 1);
        x.poke(1, 2, 9, 1);
        due("two paths of six", x.anew(0), 11);
        due("once", x.anew(0), 0);
        due("mended", x.broken(0), -1);
        due("the other side stays", x.broken(1), 49);
        due("the other side", x.anew(1), 6);
        x.poke(0, 0, 1, 1);
        x.poke(0, 0, 1, 1);
        due("back as it was", x.anew(0), 0);
        DigestTrees y = full(256);
        for (int leaf = 0; leaf < 32; leaf++) {
            y.poke(0, leaf / 8, leaf % 8 * 8 + 3, -1);
        }
        due("all", y.anew(0), 63);
        for (int bad : WRONG_SIDES) {
            due("side " + bad, y.anew(bad), -1);
        }
    }

    private static void promise19() {
        part = "19 leaf";
        DigestTrees x = sample();
        int[][] cases = {
            {1, -1, 1, 64, 5, 3}, {2, -1, 1, 64, 2, 1}, {3, -1, 1, 64, 3, 2}, {4, 0, 1, 64, 1, 1},
            {7, 3, 1, 64, 1, 0}, {8, 0, 1, 32, 1, 1}, {9, 0, 33, 64, 0, 0}, {15, 3, 33, 64, 1, 0},
            {16, 0, 1, 16, 1, 1}, {19, 0, 49, 64, 0, 0}, {24, 2, 1, 16, 2, 2}, {31, 3, 49, 64, 0, 0},
            {32, 0, 1, 8, 1, 1}, {39, 0, 57, 64, 0, 0}, {40, 1, 1, 8, 0, 0}, {47, 1, 57, 64, 1, 0},
            {49, 2, 9, 16, 1, 1}, {60, 3, 33, 40, 1, 0}, {63, 3, 57, 64, 0, 0},
        };
        for (int[] row : cases) {
            for (int what = 0; what < 5; what++) {
                due("leaf(" + row[0] + ", " + what + ")", x.leaf(row[0], what), row[what + 1]);
            }
        }
        x.hold(1, 2, false);
        due("those that count", x.leaf(1, 3) + " " + x.leaf(1, 4), "3 1");
        due("its node stays", x.leaf(49, 0), 2);
        for (int bad : WRONG_RANGES) {
            for (int what = 0; what < 5; what++) {
                due("leaf(" + bad + ", " + what + ")", x.leaf(bad, what), -1);
            }
        }
        for (int bad : new int[] {-1, 5, 6, Integer.MIN_VALUE, Integer.MAX_VALUE}) {
            due("what " + bad, x.leaf(40, bad), -1);
        }
        due("256 rows", full(256).leaf(1, 3), 256);
    }
}
