import java.util.TreeSet;

/** Each sentence of the promises that names a boundary case, with a test of its own. */
public final class PromiseBoundaryTest extends Boundaries {
    public static void main(String[] args) {
        newObject();
        row();
        drop();
        hold();
        poke();
        get();
        begin();
        round();
        rounds();
        differ();
        equal();
        table();
        found();
        foundValue();
        digest();
        sum();
        broken();
        anew();
        leaf();
        end();
    }

    private static void newObject() {
        sentence("1: No ROWS", () -> {
            for (int side = 0; side < 2; side++) {
                int own = side;
                same("rows", allRows(new DigestTrees(), side), "- ".repeat(256));
                due("drop", () -> new DigestTrees().drop(own, 0, 1), false);
                due("poke", () -> new DigestTrees().poke(own, 0, 1, 1), false);
                due("count", () -> new DigestTrees().leaf(1, 3 + own), 0);
                due("broken", () -> new DigestTrees().broken(own), -1);
                due("anew", () -> new DigestTrees().anew(own), 0);
                due("the first", () -> new DigestTrees().row(own, 3, 64, 0), 1);
            }
            due("equal", () -> new DigestTrees().equal(), true);
            due("table", () -> new DigestTrees().table(6), 0);
        });
        sentence("1: no WALK", () -> {
            DigestTrees x = new DigestTrees();
            due("rounds", x::rounds, -1);
            due("round", x::round, NO_STATE);
            due("differ", () -> x.differ(0, 0) + " " + x.differ(0, 1) + " " + x.differ(0, 2), "-1 -1 -1");
        });
        sentence("1: no TABLE", () -> {
            DigestTrees x = new DigestTrees();
            due("found", () -> x.found(0, 0) + " " + x.found(0, 1) + " " + x.found(0, 2), "-1 -1 -1");
            due("foundValue", () -> x.foundValue(0), NO_ELEMENT);
        });
        sentence("1: a new one, whatever others did", () -> {
            String before = all(DigestTrees::new);
            ended();
            same("all", all(DigestTrees::new), before);
        });
    }

    private static void row() {
        sentence("2: in place of the one with its NODE and number", () -> {
            DigestTrees x = with(y -> y.row(0, 1, 8, 1));
            x.row(0, 1, 9, 2);
            x.row(0, 1, 7, 3);
            due("in place", () -> x.row(0, 1, 8, 4), 3);
            due("the new one and its neighbours", () -> x.get(0, 1, 7) + " " + x.get(0, 1, 8) + " " + x.get(0, 1, 9), "3 4 2");
            same("digest", hex(x, 0, 40), sha(bytes(1, 7, 3), bytes(1, 8, 4)));
            due("with the same v", () -> x.row(0, 1, 8, 4), 3);
            same("digest of the same v", hex(x, 0, 40), sha(bytes(1, 7, 3), bytes(1, 8, 4)));
        });
        sentence("2: how many the SIDE has", () -> {
            DigestTrees x = with(y -> y.row(1, 0, 1, 1));
            for (int i = 0; i < 256; i++) {
                int at = i;
                due("row " + i, () -> x.row(0, at / 64, at % 64 + 1, 0), i + 1);
            }
            due("full, in place", () -> x.row(0, 3, 64, 1), 256);
            due("full, its first", () -> x.row(0, 0, 1, 1), 256);
            due("the other side", () -> x.row(1, 0, 2, 1), 2);
            x.drop(0, 2, 2);
            due("one went", () -> x.row(0, 0, 1, 1), 255);
            x.hold(0, 3, false);
            due("those that do not count too", () -> x.row(0, 2, 2, 1), 256);
        });
        sentence("2: IllegalArgumentException: there is no such SIDE", () -> {
            for (int no : NO_SIDES) {
                refused("row of side " + no, x -> x.row(no, 0, 1, 9), ILLEGAL);
            }
        });
        sentence("2: IllegalArgumentException: there is no such NODE", () -> {
            for (int no : NO_NODES) {
                refused("row of node " + no, x -> x.row(0, no, 1, 9), ILLEGAL);
                due("of the other side", () -> new DigestTrees().row(1, no, 64, 9), ILLEGAL);
            }
        });
        sentence("2: IllegalArgumentException: there is no such number", () -> {
            for (int no : NO_NUMBERS) {
                refused("row of number " + no, x -> x.row(1, 0, no, 9), ILLEGAL);
                due("of the last node", () -> new DigestTrees().row(0, 3, no, 9), ILLEGAL);
            }
            refused("all wrong", x -> x.row(2, 4, 65, 9), ILLEGAL);
        });
    }

    private static void drop() {
        sentence("3: A ROW of a SIDE goes: true", () -> {
            for (int i : new int[] {0, 63, 64, 127, 128, 191, 192, 255}) {
                DigestTrees x = new DigestTrees();
                fill(x, 1, 256);
                due("drop " + i, () -> x.drop(1, i / 64, i % 64 + 1), true);
                due("it is gone", () -> x.get(1, i / 64, i % 64 + 1), NO_ELEMENT);
                due("255 are left", () -> x.leaf(1, 4), 255);
            }
            DigestTrees x = new DigestTrees();
            fill(x, 0, 128);
            for (int i = 0; i < 128; i++) {
                int at = i;
                due("full to empty, " + i, () -> x.drop(0, at / 64, at % 64 + 1), true);
            }
            same("nothing is left", hex(x, 0, 1), NOTHING);
            due("the first again", () -> x.row(0, 0, 1, 1), 1);
        });
        sentence("3: false if there is none such", () -> {
            refused("an empty place", x -> x.drop(0, 0, 3), false);
            refused("the other side's alone", x -> x.drop(1, 0, 1), false);
            refused("a poked leaf's empty place", x -> x.drop(0, 3, 63), false);
            due("twice", () -> {
                DigestTrees x = with(y -> y.row(0, 0, 1, 0));
                return x.drop(0, 0, 1) + " " + x.drop(0, 0, 1);
            }, "true false");
            for (int no : NO_SIDES) {
                refused("side " + no, x -> x.drop(no, 0, 8), false);
            }
            for (int no : NO_NODES) {
                refused("node " + no, x -> x.drop(0, no, 1), false);
            }
            for (int no : NO_NUMBERS) {
                refused("number " + no, x -> x.drop(0, 0, no), false);
            }
            due("of a full side", () -> {
                DigestTrees x = with(y -> fill(y, 0, 256));
                return x.drop(0, 4, 1) + " " + x.drop(0, 0, 0) + " " + x.drop(0, 3, 65) + " " + x.drop(0, -1, 64);
            }, "false false false false");
        });
    }

    private static void hold() {
        sentence("4: A SIDE HOLDS a NODE from now on, or not: true", () -> {
            for (int i = 0; i < 8; i++) {
                int at = i;
                DigestTrees x = new DigestTrees();
                due("off", () -> x.hold(at / 4, at % 4, false), true);
                due("on", () -> x.hold(at / 4, at % 4, true), true);
            }
            DigestTrees x = with(y -> y.row(0, 1, 1, 5));
            x.hold(0, 1, false);
            due("its rows stay", () -> x.get(0, 1, 1), 5);
            x.row(0, 1, 2, 6);
            x.drop(0, 1, 1);
            x.hold(0, 1, true);
            same("what came meanwhile counts from now on", hex(x, 0, 40), sha(bytes(1, 2, 6)));
        });
        sentence("4: false if .. it is so already", () -> {
            refused("on already", x -> x.hold(0, 3, true), false);
            refused("on already, the other side not", x -> x.hold(0, 2, true), false);
            refused("off already", x -> x.hold(1, 2, false), false);
        });
        sentence("4: false if there is none such", () -> {
            for (int no : NO_SIDES) {
                refused("side " + no + " off", x -> x.hold(no, 2, false), false);
                refused("side " + no + " on", x -> x.hold(no, 2, true), false);
            }
            for (int no : NO_NODES) {
                refused("node " + no + " off", x -> x.hold(0, no, false), false);
                refused("node " + no + " on", x -> x.hold(1, no, true), false);
            }
        });
    }

    private static void poke() {
        sentence("5: v of a ROW is exclusive-ored with mask", () -> {
            long[] masks = {1, -1, Long.MIN_VALUE, Long.MAX_VALUE, 1L << 32, 1L << 31};
            for (long mask : masks) {
                DigestTrees x = with(y -> y.row(1, 3, 64, 0x55));
                due("mask " + mask, () -> x.poke(1, 3, 64, mask), true);
                due("v by mask " + mask, () -> x.get(1, 3, 64), 0x55 ^ mask);
                due("broken", () -> x.broken(1), 63);
                x.poke(1, 3, 64, mask);
                due("twice", () -> x.get(1, 3, 64) + " " + x.broken(1), "85 -1");
            }
        });
        sentence("5: and nothing is told of it", () -> {
            DigestTrees x = with(y -> y.row(0, 0, 1, 1));
            x.row(1, 0, 1, 1);
            x.poke(0, 0, 1, 2);
            due("equal", x::equal, true);
            due("sum", () -> x.sum(0, 1), x.sum(1, 1));
            same("walk", walked(x), "0 ");
            due("how many", () -> x.row(0, 3, 64, 0), 2);
        });
        sentence("5: false if .. mask is 0", () -> refused("mask 0", x -> x.poke(0, 0, 1, 0), false));
        sentence("5: false if there is none such", () -> {
            refused("an empty place", x -> x.poke(0, 0, 3, 1), false);
            refused("the other side's alone", x -> x.poke(1, 0, 1, 1), false);
            refused("empty, mask 0", x -> x.poke(0, 0, 3, 0), false);
            for (int no : NO_SIDES) {
                refused("side " + no, x -> x.poke(no, 0, 8, 1), false);
            }
            for (int no : NO_NODES) {
                refused("node " + no, x -> x.poke(0, no, 1, 1), false);
            }
            for (int no : NO_NUMBERS) {
                refused("number " + no, x -> x.poke(0, 0, no, 1), false);
            }
            due("dropped", () -> {
                DigestTrees x = with(y -> y.row(0, 0, 1, 1));
                x.drop(0, 0, 1);
                return x.poke(0, 0, 1, 1) + " " + x.row(0, 0, 1, 0) + " " + x.get(0, 0, 1);
            }, "false 1 0");
        });
    }

    private static void get() {
        sentence("6: v of a ROW", () -> {
            for (long v : new long[] {0, -1, Long.MIN_VALUE, Long.MAX_VALUE}) {
                due("v " + v, () -> with(x -> x.row(0, 0, 1, v)).get(0, 0, 1), v);
            }
            due("of a row that does not count", () -> amid().get(0, 2, 9) + " " + amid().get(1, 2, 9), "5 6");
            due("of a poked one", () -> amid().get(0, 3, 64), 7);
        });
        sentence("6: NoSuchElementException: there is none such", () -> {
            refused("an empty place", x -> x.get(0, 0, 3), NO_ELEMENT);
            refused("the other side's alone", x -> x.get(1, 0, 1), NO_ELEMENT);
            for (int no : NO_SIDES) {
                refused("side " + no, x -> x.get(no, 0, 8), NO_ELEMENT);
            }
            for (int no : NO_NODES) {
                refused("node " + no, x -> x.get(0, no, 1), NO_ELEMENT);
            }
            for (int no : NO_NUMBERS) {
                refused("number " + no, x -> x.get(0, 0, no), NO_ELEMENT);
            }
            DigestTrees x = with(y -> fill(y, 0, 256));
            x.drop(0, 3, 64);
            due("dropped", () -> x.get(0, 3, 64), NO_ELEMENT);
            due("below a full side", () -> x.get(0, 0, 0), NO_ELEMENT);
            due("above a node", () -> x.get(0, 0, 65), NO_ELEMENT);
        });
    }

    private static void begin() {
        sentence("7: A WALK begins", () -> {
            DigestTrees x = with(DigestTrees::begin);
            due("rounds", x::rounds, 0);
            due("none told", () -> x.differ(0, 0), -1);
            due("a round", x::round, 0);
        });
        sentence("7: in place of one that was", () -> {
            DigestTrees amid = amid();
            amid.begin();
            due("amid: rounds", amid::rounds, 0);
            due("amid: from 1 on", amid::round, 2);
            DigestTrees ended = ended();
            other("told before", told(ended), "");
            ended.begin();
            due("ended: rounds", ended::rounds, 0);
            same("ended: none is told", told(ended), "");
            due("ended: from 1 on", ended::round, 2);
            DigestTrees wide = with(x -> fill(x, 0, 256));
            wide.begin();
            for (int due : new int[] {2, 4, 8, 16, 32, 0}) {
                due("all differ", wide::round, due);
            }
            wide.hold(0, 0, false);
            wide.hold(0, 1, false);
            wide.hold(0, 2, false);
            wide.begin();
            due("a lesser one after a greater one", () -> wide.round() + " " + wide.round() + " " + wide.round()
                + " " + wide.round() + " " + wide.round() + " " + wide.round(), "2 2 2 4 8 0");
            due("its last", () -> wide.differ(63, 2), 64);
            due("none behind", () -> wide.differ(64, 2), -1);
        });
        sentence("7: the TABLE stays", () -> {
            DigestTrees x = amid();
            String before = peeled(x);
            x.begin();
            same("found", peeled(x), before);
        });
    }

    private static void round() {
        sentence("8: how many ranges are to be looked at in the next one", () -> {
            DigestTrees all = with(x -> fill(x, 1, 256));
            all.begin();
            for (int due : new int[] {2, 4, 8, 16, 32, 0}) {
                due("all differ", all::round, due);
            }
            DigestTrees none = with(DigestTrees::begin);
            due("none differs", none::round, 0);
            DigestTrees last = with(x -> x.row(1, 3, 64, 0));
            last.begin();
            for (int due : new int[] {2, 2, 2, 2, 2, 0}) {
                due("the last differs", last::round, due);
            }
        });
        sentence("8: IllegalStateException: there is none", () -> {
            DigestTrees x = with(y -> y.row(0, 0, 1, 1));
            due("no walk", x::round, NO_STATE);
            due("still none", x::rounds, -1);
            x.begin();
            due("by now", x::round, 2);
        });
        sentence("8: IllegalStateException: .. it has ended", () -> {
            refusedOf(Boundaries::ended, ALL_ENDED, "round", DigestTrees::round, NO_STATE);
            DigestTrees x = with(DigestTrees::begin);
            x.round();
            x.row(0, 0, 1, 1);
            due("after one, whatever comes", x::round, NO_STATE);
            due("again", x::round, NO_STATE);
            x.begin();
            due("a new one", x::round, 2);
        });
    }

    private static void rounds() {
        sentence("9: ROUNDS of the WALK that were", () -> {
            DigestTrees x = with(y -> y.row(0, 0, 1, 1));
            x.begin();
            for (int i = 0; i < 6; i++) {
                due("before the next", x::rounds, i);
                x.round();
            }
            due("at the end", x::rounds, 6);
            answer(x::round);
            due("a refused one is none", x::rounds, 6);
            x.begin();
            due("of the new one", x::rounds, 0);
            DigestTrees y = with(DigestTrees::begin);
            y.round();
            due("one alone", y::rounds, 1);
        });
        sentence("9: NONE without one", () -> {
            DigestTrees x = with(y -> fill(y, 0, 9));
            x.table(9);
            answer(x::round);
            due("rows, a table, a refused round", x::rounds, -1);
        });
    }

    private static void differ() {
        sentence("10: what 0: 0 SIDE 0 alone has a ROW, 1 SIDE 1 alone, 2 both with other v, 1: NODE, 2: number", () -> {
            DigestTrees x = with(y -> y.row(0, 0, 1, 1));
            x.row(1, 1, 32, 1);
            x.row(0, 3, 64, 1);
            x.row(1, 3, 64, 2);
            same("three", walked(x), "2 4 6 6 6 0 (0 0 1)(1 1 32)(2 3 64)");
        });
        sentence("10: as they were told", () -> {
            DigestTrees x = with(y -> y.row(0, 0, 1, 1));
            walked(x);
            x.drop(0, 0, 1);
            x.hold(0, 0, false);
            x.table(6);
            same("once it is gone", told(x), "(0 0 1)");
        });
        sentence("10: NONE if there is none such", () -> {
            for (int no : NO_PLACES) {
                for (int what = 0; what < 3; what++) {
                    int kind = what;
                    due("place " + no + ", " + what, () -> ended().differ(no, kind), -1);
                }
            }
            DigestTrees x = ended();
            int many = told(x).split("\\(").length - 1;
            same("some were told", many > 2, true);
            for (int what = 0; what < 3; what++) {
                int kind = what;
                other("the last", x.differ(many - 1, what), -1);
                due("the one behind the last", () -> x.differ(many, kind), -1);
                due("amid the rounds", () -> amid().differ(0, kind), -1);
                due("without a walk", () -> with(y -> y.row(0, 0, 1, 1)).differ(0, kind), -1);
            }
        });
        sentence("10: NONE .. for another what", () -> {
            for (int what : new int[] {-1, 3, 4, 256, 258, MIN, MAX}) {
                due("what " + what, () -> ended().differ(0, what), -1);
                due("what " + what + " of none", () -> ended().differ(-1, what), -1);
            }
        });
        sentence("10: the k-th, all that there can be", () -> {
            DigestTrees x = with(y -> fill(y, 1, 256));
            x.begin();
            for (int i = 0; i < 6; i++) {
                x.round();
            }
            for (int k : new int[] {0, 1, 63, 64, 128, 254, 255}) {
                due("of 256, " + k, () -> x.differ(k, 0) + " " + x.differ(k, 1) + " " + x.differ(k, 2),
                    "1 " + k / 64 + " " + (k % 64 + 1));
            }
            due("no 257th", () -> x.differ(256, 0), -1);
        });
    }

    private static void equal() {
        sentence("11: Whether the DIGESTS of range 1 are alike", () -> {
            due("both empty", () -> new DigestTrees().equal(), true);
            due("one row", () -> with(x -> x.row(1, 3, 64, 0)).equal(), false);
            DigestTrees full = with(x -> fill(x, 0, 256));
            fill(full, 1, 255);
            due("all but one", full::equal, false);
            DigestTrees last = with(x -> fill(x, 0, 250));
            fill(last, 1, 250);
            due("full", last::equal, true);
            last.row(1, 0, 1, 1000L ^ 1L << 63);
            due("but for one bit", last::equal, false);
            due("rows that do not count", () -> {
                DigestTrees x = with(y -> y.row(0, 1, 1, 1));
                x.hold(1, 1, false);
                return x.equal();
            }, true);
        });
        sentence("11: as they are kept", () -> {
            DigestTrees x = with(y -> y.row(0, 0, 1, 1));
            x.row(1, 0, 1, 3);
            x.poke(0, 0, 1, 2);
            due("the same rows, other digests", x::equal, false);
            x.anew(0);
            due("anew", x::equal, true);
            x.poke(0, 0, 1, 2);
            due("other rows, the same digests", x::equal, true);
        });
    }

    private static void table() {
        sentence("12: how many were FOUND", () -> {
            due("none, as there are no rows", () -> new DigestTrees().table(6), 0);
            due("none, as they are alike", () -> {
                DigestTrees x = with(y -> fill(y, 0, 200));
                fill(x, 1, 200);
                return x.table(6);
            }, 0);
            due("one", () -> with(x -> x.row(0, 0, 1, 0)).table(6), 1);
            due("many", () -> with(x -> fill(x, 0, 30)).table(63), 30);
            due("those that count alone", () -> {
                DigestTrees x = with(y -> fill(y, 0, 200));
                for (int node = 0; node < 3; node++) {
                    x.hold(1, node, false);
                }
                return x.table(63);
            }, 8);
        });
        sentence("12: or -1 less how many, if it is not done", () -> {
            due("none of many", () -> with(x -> fill(x, 0, 256)).table(6), -1);
            due("none of two", () -> counted(new long[] {1, 7}, 1, 8, 1), "-1");
            DigestTrees x = ended();
            int answer = x.table(24);
            same("some", answer < -1, true);
            same("so many", peeled(x).split("\\(").length - 1, -1 - answer);
        });
        sentence("12: IllegalArgumentException: n is not 6 .. 63, or no whole third of it is there", () -> {
            for (int n : NO_CELLS) {
                refused("table(" + n + ")", x -> x.table(n), ILLEGAL);
            }
            due("the least", () -> new DigestTrees().table(6), 0);
            due("the greatest", () -> new DigestTrees().table(63), 0);
            for (int n = 6; n < 64; n++) {
                int cells = n;
                due("table(" + n + ")", () -> new DigestTrees().table(cells), n % 3 == 0 ? 0 : ILLEGAL);
            }
        });
        sentence("12: it leaves rows, what is kept, and the WALK", () -> {
            DigestTrees x = amid();
            x.table(21);
            same("the same table again", allElse(x), allElse(amid()));
        });
    }

    private static void found() {
        sentence("13: Of the k-th ROW that was FOUND in the latest TABLE", () -> {
            DigestTrees x = with(y -> y.row(0, 0, 1, 1));
            due("table(6)", () -> x.table(6) + peeled(x), "1(0 0 1 1)");
            x.drop(0, 0, 1);
            x.row(1, 3, 64, -1);
            same("whatever comes", peeled(x), "(0 0 1 1)");
            answer(() -> x.table(7));
            same("a refused one is none", peeled(x), "(0 0 1 1)");
            due("the next", () -> x.table(63) + peeled(x), "1(1 3 64 -1)");
            x.drop(1, 3, 64);
            due("an empty one", () -> x.table(63) + peeled(x), "0");
        });
        sentence("13: NONE if there is none such", () -> {
            int many = peeled(ended()).split("\\(").length - 1;
            same("some were found", many > 1, true);
            for (int what = 0; what < 3; what++) {
                int kind = what;
                for (int no : NO_PLACES) {
                    due("place " + no, () -> ended().found(no, kind), -1);
                }
                other("the last", ended().found(many - 1, what), -1);
                due("the one behind the last", () -> ended().found(many, kind), -1);
                due("no table", () -> with(x -> x.row(0, 0, 1, 1)).found(0, kind), -1);
            }
        });
        sentence("13: NONE .. for another what", () -> {
            for (int what : new int[] {-1, 3, 4, 256, 258, MIN, MAX}) {
                due("what " + what, () -> ended().found(0, what), -1);
                due("what " + what + " of none", () -> ended().found(-1, what), -1);
            }
        });
    }

    private static void foundValue() {
        sentence("14: v of that ROW", () -> {
            for (long v : new long[] {0, -1, Long.MIN_VALUE, Long.MAX_VALUE}) {
                DigestTrees x = with(y -> y.row(1, 2, 3, v));
                x.table(6);
                x.row(1, 2, 3, 5);
                due("v " + v, () -> x.foundValue(0), v);
            }
        });
        sentence("14: NoSuchElementException: there is none such", () -> {
            int many = peeled(ended()).split("\\(").length - 1;
            for (int no : NO_PLACES) {
                refused("place " + no, x -> x.foundValue(no), NO_ELEMENT);
            }
            other("the last", answer(() -> ended().foundValue(many - 1)), NO_ELEMENT);
            due("the one behind the last", () -> ended().foundValue(many), NO_ELEMENT);
            due("no table", () -> with(x -> x.row(0, 0, 1, 1)).foundValue(0), NO_ELEMENT);
            DigestTrees x = with(y -> y.row(0, 0, 1, 1));
            x.table(6);
            x.drop(0, 0, 1);
            x.table(6);
            due("a table of none after one of one", () -> x.foundValue(0), NO_ELEMENT);
        });
    }

    private static void digest() {
        sentence("15: Byte i (0 .. 255) of the DIGEST", () -> {
            TreeSet<Integer> bytes = new TreeSet<>();
            for (int v = 0; v < 200; v++) {
                long value = v;
                DigestTrees x = with(y -> y.row(0, 0, 1, value));
                String due = sha(bytes(0, 1, v));
                for (int i = 0; i < 32; i++) {
                    int at = i;
                    due("byte " + i, () -> x.digest(0, 32, at), Integer.parseInt(due.substring(2 * i, 2 * i + 2), 16));
                    bytes.add(x.digest(0, 32, i));
                }
            }
            same("all bytes came", bytes.first() + " " + bytes.last() + " " + bytes.size(), "0 255 256");
        });
        sentence("15: as it is kept", () -> same("poked", hex(amid(), 0, 63), sha(bytes(3, 64, 6))));
        sentence("15: ArrayIndexOutOfBoundsException: there is no such SIDE, range, byte", () -> {
            for (int no : NO_SIDES) {
                refused("side " + no, x -> x.digest(no, 1, 0), NO_INDEX);
            }
            for (int no : NO_RANGES) {
                refused("range " + no, x -> x.digest(0, no, 0), NO_INDEX);
                due("range " + no + ", its last byte", () -> amid().digest(1, no, 31), NO_INDEX);
            }
            for (int no : NO_BYTES) {
                refused("byte " + no, x -> x.digest(1, 32, no), NO_INDEX);
                due("byte " + no + " of range 1", () -> amid().digest(0, 1, no), NO_INDEX);
                due("byte " + no + " of range 63", () -> amid().digest(0, 63, no), NO_INDEX);
            }
            due("all wrong", () -> amid().digest(2, 64, 32), NO_INDEX);
            due("the first range's ends", () -> new DigestTrees().digest(0, 1, 0) + new DigestTrees().digest(1, 1, 31), 0);
            due("the last range's ends", () -> new DigestTrees().digest(0, 63, 0) + new DigestTrees().digest(1, 63, 31), 0);
        });
    }

    private static void sum() {
        sentence("16: Its SUM, as it is kept", () -> {
            due("poked", () -> amid().sum(0, 63), s(bytes(3, 64, 6)));
            due("anew", () -> {
                DigestTrees x = amid();
                x.anew(0);
                return x.sum(0, 63);
            }, s(bytes(3, 64, 7)));
        });
        sentence("16: ArrayIndexOutOfBoundsException: there is no such SIDE, range", () -> {
            for (int no : NO_SIDES) {
                refused("side " + no, x -> x.sum(no, 1), NO_INDEX);
            }
            for (int no : NO_RANGES) {
                refused("range " + no, x -> x.sum(0, no), NO_INDEX);
                due("range " + no + " of side 1", () -> amid().sum(1, no), NO_INDEX);
            }
            due("all wrong", () -> amid().sum(-1, 0), NO_INDEX);
            due("the ends", () -> new DigestTrees().sum(0, 1) + new DigestTrees().sum(1, 63), 0);
        });
    }

    private static void broken() {
        sentence("17: The least leaf of a SIDE whose DIGEST is not that of its ROWS that COUNT", () -> {
            for (int leaf = 32; leaf < 64; leaf++) {
                int at = leaf;
                DigestTrees x = with(y -> fill(y, 1, 256));
                x.poke(1, 3, 64, 1);
                x.poke(1, (at - 32) / 8, (at - 32) % 8 * 8 + 1, 1);
                due("leaf " + leaf, () -> x.broken(1), leaf);
                due("the other side", () -> x.broken(0), -1);
            }
            DigestTrees x = with(y -> y.row(0, 0, 1, 1));
            x.poke(0, 0, 1, 1);
            x.hold(1, 0, false);
            due("not those that do not count", () -> x.broken(0), -1);
            x.poke(0, 0, 1, 1);
            x.hold(1, 0, true);
            due("nor once they count", () -> x.broken(0), -1);
        });
        sentence("17: NONE if there is none", () -> {
            due("new", () -> new DigestTrees().broken(1), -1);
            due("rows", () -> with(x -> fill(x, 0, 256)).broken(0), -1);
            DigestTrees x = with(y -> y.row(0, 0, 1, 1));
            x.poke(0, 0, 1, 6);
            x.poke(0, 0, 1, 2);
            x.poke(0, 0, 1, 4);
            due("poked back", () -> x.broken(0), -1);
            x.poke(0, 0, 1, 1);
            x.drop(0, 0, 1);
            due("poked and dropped", () -> x.broken(0), -1);
        });
        sentence("17: NONE if there is .. no such SIDE", () -> {
            for (int no : NO_SIDES) {
                refused("side " + no, x -> x.broken(no), -1);
            }
            due("though both are broken", () -> poked().broken(2) + " " + poked().broken(-1), "-1 -1");
        });
        sentence("17: asking makes nothing anew", () -> refused("broken", x -> x.broken(0), 63));
    }

    private static void anew() {
        sentence("18: All that is kept of a SIDE is made anew of its ROWS", () -> {
            DigestTrees x = poked();
            x.row(1, 2, 9, 1);
            x.poke(1, 2, 9, 1);
            x.anew(0);
            String left = sha(bytes(2, 9, 4));
            String right = sha(bytes(2, 17, 7));
            same("digests", hex(x, 0, 12), above(above(NOTHING, left), above(right, NOTHING)));
            due("sums", () -> x.sum(0, 12), sumAbove(sumAbove(0, s(bytes(2, 9, 4))), sumAbove(s(bytes(2, 17, 7)), 0)));
            due("of this side alone", () -> x.broken(0) + " " + x.broken(1), "-1 49");
        });
        sentence("18: of how many ranges the DIGEST is another one then", () -> {
            due("new", () -> new DigestTrees().anew(0), 0);
            due("nothing poked", () -> with(x -> fill(x, 0, 256)).anew(0), 0);
            due("one leaf", () -> changed(0, 1), 6);
            due("twice in one leaf", () -> changed(0, 2), 6);
            due("two beside one another", () -> changed(0, 9), 7);
            due("two far from one another", () -> changed(0, 192), 11);
            due("all leaves", () -> changed(0, 256), 63);
            due("poked back", () -> {
                DigestTrees x = with(y -> y.row(0, 0, 1, 1));
                x.poke(0, 0, 1, 1);
                x.poke(0, 0, 1, 1);
                return x.anew(0);
            }, 0);
            due("a row that does not count", () -> {
                DigestTrees x = with(y -> y.row(0, 0, 1, 1));
                x.hold(1, 0, false);
                x.poke(0, 0, 1, 1);
                return x.anew(0);
            }, 0);
            due("once", () -> {
                DigestTrees x = poked();
                return x.anew(0) + " " + x.anew(0);
            }, "8 0");
        });
        sentence("18: NONE if there is no such SIDE", () -> {
            for (int no : NO_SIDES) {
                refused("side " + no, x -> x.anew(no), -1);
            }
        });
    }

    /** Pokes the first place and the last of so many, or one of each leaf if they are all: how many ranges are others. */
    private static int changed(int first, int places) {
        DigestTrees x = with(y -> fill(y, 0, 256));
        if (places == 256) {
            for (int i = 0; i < 256; i += 8) {
                x.poke(0, i / 64, i % 64 + 1, 1);
            }
            return x.anew(0);
        }
        x.poke(0, first / 64, first % 64 + 1, 1);
        if (places > 1) {
            int last = first + places - 1;
            x.poke(0, last / 64, last % 64 + 1, 1);
        }
        return x.anew(0);
    }

    private static void leaf() {
        sentence("19: what 0: its NODE (NONE if it has several)", () -> {
            for (int range = 1; range < 64; range++) {
                int at = range;
                int level = Integer.numberOfTrailingZeros(Integer.highestOneBit(range));
                int due = level < 2 ? -1 : range - (1 << level) >> level - 2;
                due("node of " + range, () -> new DigestTrees().leaf(at, 0), due);
            }
            due("not held by a side", () -> amid().leaf(6, 0), 2);
        });
        sentence("19: 1, 2: its least, its greatest number", () -> {
            for (int range = 1; range < 64; range++) {
                int at = range;
                int level = Integer.numberOfTrailingZeros(Integer.highestOneBit(range));
                int wide = level < 2 ? 64 : 256 >> level;
                int least = (range - (1 << level)) * wide % 64 + 1;
                due("numbers of " + range, () -> amid().leaf(at, 1) + " " + amid().leaf(at, 2), least + " " + (least + wide - 1));
            }
        });
        sentence("19: 3, 4: how many ROWS of it COUNT for SIDES 0, 1", () -> {
            DigestTrees x = with(y -> fill(y, 1, 256));
            x.row(0, 0, 1, 1);
            for (int range : new int[] {1, 2, 3, 4, 7, 8, 15, 16, 31, 32, 33, 63}) {
                int level = Integer.numberOfTrailingZeros(Integer.highestOneBit(range));
                int zero = range == 1 << level ? 1 : 0;
                due("of " + range, () -> x.leaf(range, 3) + " " + x.leaf(range, 4), zero + " " + (256 >> level));
            }
            x.hold(0, 3, false);
            due("one node less", () -> x.leaf(1, 3) + " " + x.leaf(1, 4) + " " + x.leaf(7, 4) + " " + x.leaf(63, 4), "1 192 0 0");
            x.drop(1, 3, 64);
            x.hold(0, 3, true);
            due("all but one", () -> x.leaf(1, 4) + " " + x.leaf(63, 4), "255 7");
            x.poke(1, 0, 1, 1);
            due("a poked one counts", () -> x.leaf(32, 4), 8);
        });
        sentence("19: NONE if there is none such", () -> {
            for (int no : NO_RANGES) {
                for (int what = 0; what < 5; what++) {
                    int part = what;
                    due("range " + no + ", " + what, () -> ended().leaf(no, part), -1);
                }
            }
        });
        sentence("19: NONE .. for another what", () -> {
            for (int what : new int[] {-1, 5, 6, 256, 260, MIN, MAX}) {
                for (int range : new int[] {1, 2, 4, 32, 63, 0, 64}) {
                    due("what " + what + " of " + range, () -> ended().leaf(range, what), -1);
                }
            }
        });
    }
}
