import java.io.ByteArrayOutputStream;
import java.nio.ByteBuffer;
import java.util.Set;
import java.util.TreeSet;
import java.util.function.Consumer;

/** Each sentence of "The public face" and "Terms" that names a boundary case, with a test of its own. */
public final class TermsBoundaryTest extends Boundaries {
    public static void main(String[] args) {
        face();
        termsOfRows();
        termsOfRanges();
        termsOfDigests();
        termsOfSums();
        termsOfWhatIsKept();
        termsOfWalks();
        termsOfTables();
        termsOfPeeling();
        end();
    }

    private static void face() {
        sentence("NONE = -1", () -> same("NONE", DigestTrees.NONE, -1));
        sentence("An object is used for at most 512 calls", TermsBoundaryTest::lastOf512);
    }

    private static void lastOf512() {
        DigestTrees rows = new DigestTrees();
        fill(rows, 0, 256);
        fill(rows, 1, 255);
        due("the 512th, a row", () -> rows.row(1, 3, 64, 1), 256);
        DigestTrees walk = new DigestTrees();
        fill(walk, 0, 256);
        fill(walk, 1, 248);
        walk.begin();
        for (int i = 0; i < 6; i++) {
            walk.round();
        }
        due("the 512th, a difference", () -> walk.differ(7, 2), 64);
        DigestTrees tables = with(x -> x.row(1, 3, 64, -1));
        for (int i = 0; i < 510; i++) {
            tables.table(63);
        }
        due("the 512th, a table", () -> tables.table(6), 1);
        DigestTrees pokes = with(x -> x.row(1, 3, 64, -1));
        for (int i = 0; i < 510; i++) {
            pokes.poke(1, 3, 64, 3);
        }
        due("the 512th, v", () -> pokes.get(1, 3, 64), -1);
        DigestTrees holds = with(x -> x.row(1, 3, 64, -1));
        for (int i = 0; i < 510; i++) {
            holds.hold(0, 3, i % 2 != 0);
        }
        due("the 512th, rows that count", () -> holds.leaf(63, 4), 1);
    }


    private static void termsOfRows() {
        sentence("A ROW has a NODE 0 .. 3, a number 1 .. 64, and v, a long", TermsBoundaryTest::corners);
        sentence("a SIDE has at most one for each NODE and number", () -> {
            DigestTrees x = new DigestTrees();
            due("first", () -> x.row(0, 0, 64, 1), 1);
            due("same place", () -> x.row(0, 0, 64, 2), 1);
            due("the next node's first", () -> x.row(0, 1, 1, 3), 2);
            due("same number of another node", () -> x.row(0, 1, 64, 4), 3);
            due("the other side's", () -> x.row(1, 0, 64, 5), 1);
            due("they are apart", () -> x.get(0, 0, 64) + " " + x.get(0, 1, 1) + " " + x.get(0, 1, 64)
                + " " + x.get(1, 0, 64), "2 3 4 5");
        });
        sentence("A SIDE HOLDS a NODE or not (at first all)", () -> {
            for (int i = 0; i < 8; i++) {
                int at = i;
                DigestTrees x = new DigestTrees();
                due("held at first", () -> x.hold(at / 4, at % 4, true), false);
                due("not as yet given up", () -> x.hold(at / 4, at % 4, false), true);
            }
        });
        sentence("A ROW COUNTS, if both SIDES HOLD its NODE", TermsBoundaryTest::bothHold);
        sentence("Its BYTES are ten: NODE, number, v (the highest one first)", () -> {
            long[] values = {0x0102030405060708L, 0xf1e2d3c4b5a69788L, 0, -1, 128, Long.MIN_VALUE, Long.MAX_VALUE};
            for (long v : values) {
                DigestTrees x = with(y -> y.row(1, 3, 64, v));
                same("digest of " + v, hex(x, 1, 63), sha(bytes(3, 64, v)));
                due("sum of " + v, () -> x.sum(1, 63), s(bytes(3, 64, v)));
            }
        });
    }

    private static void corners() {
        long[] values = {0, 1, -1, Long.MIN_VALUE, Long.MAX_VALUE, 1L << 32, 0xffffffffL};
        for (int side = 0; side < 2; side++) {
            for (int node = 0; node < 4; node += 3) {
                for (int number = 1; number < 65; number += 63) {
                    for (long v : values) {
                        int a = side;
                        int b = node;
                        int c = number;
                        DigestTrees x = new DigestTrees();
                        due("row", () -> x.row(a, b, c, v), 1);
                        due("get", () -> x.get(a, b, c), v);
                    }
                }
            }
        }
    }

    private static void bothHold() {
        for (int i = 0; i < 4; i++) {
            boolean zero = i % 2 == 1;
            boolean one = i / 2 == 1;
            for (int side = 0; side < 2; side++) {
                int own = side;
                DigestTrees x = with(y -> y.row(own, 2, 1, 5));
                x.hold(0, 2, zero);
                x.hold(1, 2, one);
                int due = zero && one ? 1 : 0;
                due("held by 0: " + zero + ", by 1: " + one, () -> x.leaf(48, 3 + own), due);
                same("its digest", hex(x, own, 48).equals(NOTHING), due == 0);
                due("by a table", () -> x.table(6), due);
                due("the next node's", () -> x.row(own, 3, 1, 5) + " " + x.leaf(56, 3 + own), "2 1");
                whileHeldSo(own, zero, one);
            }
        }
    }

    private static void whileHeldSo(int own, boolean zero, boolean one) {
        DigestTrees x = with(y -> y.hold(0, 2, zero));
        x.hold(1, 2, one);
        x.row(own, 2, 1, 5);
        String left = zero && one ? sha(bytes(2, 1, 5)) : NOTHING;
        same("a row that comes then", hex(x, own, 48), left);
        x.row(own, 2, 2, 6);
        x.drop(own, 2, 2);
        same("a row that goes then", hex(x, own, 48), left);
        due("what is made anew then", () -> x.anew(own) + " " + x.leaf(1, 3 + own), zero && one ? "0 1" : "0 0");
        due("nothing is broken", () -> x.broken(own), -1);
    }

    private static void termsOfRanges() {
        sentence("32 + 8 * NODE + (number - 1) / 8 is the leaf of a ROW; leaves have 8 numbers each", () -> {
            for (int i = 0; i < 256; i++) {
                int node = i / 64;
                int number = i % 64 + 1;
                DigestTrees x = with(y -> y.row(0, node, number, 1));
                TreeSet<Integer> leaves = new TreeSet<>();
                for (int range = 32; range < 64; range++) {
                    if (x.leaf(range, 3) != 0 || x.sum(0, range) != 0) {
                        leaves.add(range);
                    }
                }
                same("leaves of " + node + " " + number, leaves, Set.of(leafOf(node, number)));
            }
        });
        sentence("the parent of range i is i / 2; 1 has all", () -> {
            for (int i = 0; i < 256; i += 3) {
                int at = i;
                DigestTrees x = with(y -> y.row(1, at / 64, at % 64 + 1, 1));
                TreeSet<Integer> path = new TreeSet<>();
                for (int range = leafOf(i / 64, i % 64 + 1); range > 0; range /= 2) {
                    path.add(range);
                }
                TreeSet<Integer> changed = new TreeSet<>();
                for (int range = 1; range < 64; range++) {
                    if (x.sum(1, range) != 0 && x.leaf(range, 4) == 1) {
                        changed.add(range);
                    }
                }
                same("ranges of row " + i, changed, path);
            }
            due("all", () -> with(x -> fill(x, 0, 256)).leaf(1, 3), 256);
        });
    }

    private static void termsOfDigests() {
        sentence("THE DIGEST: if no ROW of it COUNTS there, all 0", TermsBoundaryTest::nothingThere);
        sentence("of a leaf the SHA-256 of the BYTES of its ROWS, by numbers", () -> {
            DigestTrees up = new DigestTrees();
            DigestTrees down = new DigestTrees();
            for (int number = 1; number < 9; number++) {
                up.row(0, 1, number, number);
                down.row(0, 1, 9 - number, 9 - number);
            }
            same("come from the last on", hex(down, 0, 40), hex(up, 0, 40));
            DigestTrees ends = with(x -> x.row(0, 1, 16, 3));
            ends.row(0, 1, 9, 4);
            same("the leaf's first, its last", hex(ends, 0, 41), sha(bytes(1, 9, 4), bytes(1, 16, 3)));
        });
        sentence("of another range that of the DIGESTS of 2 * i and 2 * i + 1, one behind the other", () -> {
            String left = sha(bytes(0, 1, 1));
            String right = sha(bytes(0, 9, 2));
            same("left alone", hex(with(x -> x.row(0, 0, 1, 1)), 0, 16), above(left, NOTHING));
            same("right alone", hex(with(x -> x.row(0, 0, 9, 2)), 0, 16), above(NOTHING, right));
            DigestTrees both = with(x -> x.row(0, 0, 9, 2));
            both.row(0, 0, 1, 1);
            same("both", hex(both, 0, 16), above(left, right));
            same("further up", hex(both, 0, 8), above(above(left, right), NOTHING));
        });
        sentence("SHA-256: followed by 128, by zeros, until 8 bytes are left of a block of 64", () -> {
            // Texts of 60 bytes have no place for their length in the first block, those of 70 and 80 a second block.
            ByteArrayOutputStream text = new ByteArrayOutputStream();
            DigestTrees x = new DigestTrees();
            for (int number = 57; number < 65; number++) {
                x.row(1, 3, number, -number * 0x0123456789abcdL);
                text.writeBytes(bytes(3, number, -number * 0x0123456789abcdL));
                same(text.size() + " bytes", hex(x, 1, 63), sha(text.toByteArray()));
            }
            same("64 bytes", hex(x, 1, 31), above(NOTHING, sha(text.toByteArray())));
        });
    }

    private static void nothingThere() {
        for (int range : new int[] {1, 2, 3, 4, 31, 32, 63}) {
            same("new, " + range, hex(new DigestTrees(), 0, range), NOTHING);
        }
        DigestTrees one = with(x -> x.row(0, 0, 1, 1));
        for (int range : new int[] {3, 5, 9, 17, 33, 63}) {
            same("beside the row, " + range, hex(one, 0, range), NOTHING);
        }
        same("of the other side", hex(one, 1, 32), NOTHING);
        one.drop(0, 0, 1);
        for (int range : new int[] {32, 16, 8, 4, 2, 1}) {
            same("the last row went, " + range, hex(one, 0, range), NOTHING);
        }
        DigestTrees held = with(x -> x.row(0, 3, 64, 1));
        held.hold(1, 3, false);
        for (int range : new int[] {63, 31, 15, 7, 3, 1}) {
            same("it does not count, " + range, hex(held, 0, range), NOTHING);
            due("its sum, " + range, () -> held.sum(0, range), 0);
        }
    }

    private static void termsOfSums() {
        sentence("THE SUM, an int, likewise 0 without ROWS", () -> {
            due("new", () -> new DigestTrees().sum(0, 1), 0);
            DigestTrees x = with(y -> y.row(0, 0, 1, 1));
            for (int range : new int[] {3, 5, 9, 17, 33}) {
                due("beside the row, " + range, () -> x.sum(0, range), 0);
            }
            x.drop(0, 0, 1);
            for (int range : new int[] {32, 16, 8, 4, 2, 1}) {
                due("the last row went, " + range, () -> x.sum(0, range), 0);
            }
        });
        sentence("of another range by the 8 bytes of the SUMS of 2 * i and 2 * i + 1 (the highest byte first)", () -> {
            boolean[] signs = new boolean[4];
            for (int v = 0; v < 16; v++) {
                long value = v;
                DigestTrees x = with(y -> y.row(0, 0, 1, value));
                x.row(0, 0, 9, -value);
                int left = s(bytes(0, 1, value));
                int right = s(bytes(0, 9, -value));
                signs[(left < 0 ? 1 : 0) + (right < 0 ? 2 : 0)] = true;
                due("both, " + v, () -> x.sum(0, 16), sumAbove(left, right));
            }
            same("sums below and above 0 came", signs[0] && signs[1] && signs[2] && signs[3], true);
            due("left alone", () -> with(x -> x.row(0, 0, 1, 5)).sum(0, 16), sumAbove(s(bytes(0, 1, 5)), 0));
            due("right alone", () -> with(x -> x.row(0, 0, 9, 5)).sum(0, 16), sumAbove(0, s(bytes(0, 9, 5))));
        });
        sentence("for each byte b s becomes rotl(s ^ b, 7) * 668265263 (as ints)", () -> {
            for (int b = 0; b < 256; b++) {
                // A byte of 128 and above is no number below 0, wherever it stands.
                long v = b | (long) (255 - b) << 56 | (long) b << 24;
                due("byte " + b, () -> with(x -> x.row(1, 2, 33, v)).sum(1, 52), s(bytes(2, 33, v)));
            }
        });
    }

    private static void termsOfWhatIsKept() {
        sentence("WHAT IS KEPT follows row(), drop(), hold() at once", () -> {
            DigestTrees x = with(y -> y.row(0, 0, 1, 1));
            String first = hex(x, 0, 1);
            other("after row()", first, NOTHING);
            x.row(0, 0, 1, 2);
            other("after row() in its place", hex(x, 0, 1), first);
            x.row(0, 0, 2, 2);
            x.drop(0, 0, 2);
            x.row(0, 0, 1, 1);
            same("after drop()", hex(x, 0, 1), first);
            x.hold(1, 0, false);
            same("after hold() of the other side", hex(x, 0, 1), NOTHING);
            x.hold(1, 0, true);
            same("after hold() again", hex(x, 0, 1), first);
        });
        sentence("poke() not: it makes a ROW another one than is known", () -> {
            DigestTrees x = poked();
            same("leaf 49", hex(x, 0, 49), sha(bytes(2, 9, 5)));
            due("its sum", () -> x.sum(0, 49), s(bytes(2, 9, 5)));
            due("its v", () -> x.get(0, 2, 9), 4);
            due("broken", () -> x.broken(0), 49);
        });
        findsOut();
        findsNotOut();
        sentence("(for that leaf, and what is above it)", () -> {
            DigestTrees x = poked();
            x.row(0, 2, 10, 1);
            String leaf = sha(bytes(2, 9, 4), bytes(2, 10, 1));
            String beside = sha(bytes(2, 17, 6));
            same("that leaf", hex(x, 0, 49), leaf);
            same("what is above it", hex(x, 0, 12), above(above(NOTHING, leaf), above(beside, NOTHING)));
            same("another poked leaf is not", hex(x, 0, 50), beside);
            due("and is broken", () -> x.broken(0), 50);
            due("the sum above", () -> x.sum(0, 24), sumAbove(0, s(ByteBuffer.allocate(20).put(bytes(2, 9, 4))
                .put(bytes(2, 10, 1)).array())));
        });
    }

    private static void afterwards(String call, int broken, Consumer<DigestTrees> calls) {
        DigestTrees x = poked();
        calls.accept(x);
        due("after " + call, () -> x.broken(0), broken);
    }

    private static void findsOut() {
        sentence("only anew(), or a row(), drop() in its leaf, hold() of its NODE, finds that out", () -> {
            afterwards("anew()", -1, x -> x.anew(0));
            afterwards("a row() of the poked one", 50, x -> x.row(0, 2, 9, 4));
            afterwards("a row() beside it", 50, x -> x.row(0, 2, 10, 1));
            afterwards("a row() of the leaf's last number", 50, x -> x.row(0, 2, 16, 1));
            afterwards("a drop() of the poked one", 50, x -> x.drop(0, 2, 9));
            afterwards("a drop() of another one in the leaf", 50, x -> {
                x.row(0, 2, 16, 1);
                x.poke(0, 2, 9, 8);
                x.drop(0, 2, 16);
            });
            afterwards("hold() off", -1, x -> x.hold(0, 2, false));
            afterwards("hold() off and on", -1, x -> {
                x.hold(0, 2, false);
                x.hold(0, 2, true);
            });
            afterwards("hold() of the other side off and on", -1, x -> {
                x.hold(1, 2, false);
                x.hold(1, 2, true);
            });
            DigestTrees x = poked();
            x.hold(1, 2, false);
            x.hold(1, 2, true);
            same("it is kept by then", hex(x, 0, 49) + hex(x, 0, 50), sha(bytes(2, 9, 4)) + sha(bytes(2, 17, 7)));
        });
    }

    private static void findsNotOut() {
        sentence("only anew(), .. in its leaf, .. of its NODE (nothing else)", () -> {
            afterwards("a row() in the leaf below", 49, x -> x.row(0, 2, 8, 1));
            afterwards("a row() in the leaf above", 49, x -> x.row(0, 2, 24, 1));
            afterwards("a row() of the other side", 49, x -> x.row(1, 2, 9, 1));
            afterwards("a row() of another node", 49, x -> x.row(0, 3, 9, 1));
            afterwards("a drop() in another leaf", 49, x -> x.drop(0, 1, 1));
            afterwards("a drop() of the other side", 49, x -> {
                x.row(1, 2, 9, 1);
                x.drop(1, 2, 9);
            });
            afterwards("hold() of another node", 49, x -> {
                x.hold(0, 1, false);
                x.hold(1, 3, false);
                x.hold(0, 1, true);
            });
            afterwards("anew() of the other side", 49, x -> x.anew(1));
            afterwards("a walk, a table, questions", 49, x -> {
                walked(x);
                x.table(6);
                x.equal();
                x.broken(0);
                x.leaf(49, 3);
                x.digest(0, 49, 0);
                x.get(0, 2, 9);
            });
            afterwards("calls that are refused", 49, x -> {
                answer(() -> x.row(0, 2, 65, 1));
                x.drop(0, 2, 10);
                x.hold(0, 2, true);
                x.poke(0, 2, 9, 0);
                x.anew(2);
            });
        });
    }

    private static void termsOfWalks() {
        sentence("A WALK has ranges to be looked at, at first 1", () -> {
            DigestTrees x = with(DigestTrees::begin);
            due("1 is alike", x::round, 0);
            DigestTrees y = with(z -> z.row(0, 0, 1, 1));
            y.begin();
            due("1 is not", y::round, 2);
        });
        sentence("all of them are looked at, the least first", () -> {
            DigestTrees x = new DigestTrees();
            for (int leaf = 31; leaf >= 0; leaf--) {
                x.row(leaf % 2, leaf / 8, leaf % 8 * 8 + 1 + leaf % 8, 1);
            }
            StringBuilder due = new StringBuilder("2 4 8 16 32 0 ");
            for (int leaf = 0; leaf < 32; leaf++) {
                due.append("(" + leaf % 2 + " " + leaf / 8 + " " + (leaf % 8 * 8 + 1 + leaf % 8) + ")");
            }
            same("one in each leaf", walked(x), due);
        });
        sentence("one whose DIGESTS (as they are kept) are alike is left", () -> {
            DigestTrees x = with(y -> y.row(0, 0, 1, 1));
            x.row(1, 0, 1, 1);
            x.poke(0, 0, 1, 1);
            same("poked behind them", walked(x), "0 ");
            x.row(0, 0, 9, 1);
            same("beside another leaf", walked(x), "2 2 2 2 2 0 (0 0 9)");
        });
        sentence("else a leaf tells its DIFFERENCES: by numbers", () -> {
            DigestTrees x = new DigestTrees();
            for (int number = 8; number > 0; number--) {
                if (number % 3 != 0) {
                    x.row(0, 0, number, 1);
                }
                if (number % 4 != 0) {
                    x.row(1, 0, number, number == 5 ? 2 : 1);
                }
            }
            same("one leaf", walked(x), "2 2 2 2 2 0 (1 0 3)(0 0 4)(2 0 5)(1 0 6)(0 0 8)");
        });
        sentence("each number at which one SIDE has a ROW that COUNTS and the other one none, or another v", () -> {
            long[] values = {Long.MIN_VALUE, 1L << 63 | 1, 1L << 32 | 1, 1, 0, -1};
            for (int i = 0; i < values.length; i++) {
                int at = i;
                DigestTrees x = with(y -> y.row(0, 3, 64, values[at]));
                x.row(1, 3, 64, values[(at + 1) % values.length]);
                same("v " + values[i], walked(x), "2 2 2 2 2 0 (2 3 64)");
            }
            DigestTrees x = with(y -> y.row(0, 3, 64, 0));
            same("v 0 and none", walked(x), "2 2 2 2 2 0 (0 3 64)");
            x.drop(0, 3, 64);
            x.row(1, 3, 64, 0);
            same("none and v 0", walked(x), "2 2 2 2 2 0 (1 3 64)");
            x.hold(1, 3, false);
            same("that does not count", walked(x), "0 ");
        });
        sentence("The WALK has ended when there are none", () -> {
            DigestTrees x = with(y -> y.row(0, 0, 1, 1));
            x.begin();
            for (int i = 0; i < 5; i++) {
                due("round " + i, x::round, 2);
            }
            due("the leaves", x::round, 0);
            due("none is left", x::round, NO_STATE);
        });
        sentence("(What is changed meanwhile is so.)", TermsBoundaryTest::meanwhile);
    }

    private static void meanwhile() {
        DigestTrees alike = with(x -> x.row(0, 0, 1, 1));
        alike.begin();
        alike.round();
        alike.row(1, 0, 1, 1);
        due("alike by now", alike::round, 0);
        DigestTrees more = with(x -> x.row(0, 0, 1, 1));
        more.begin();
        for (int i = 0; i < 5; i++) {
            more.round();
        }
        more.row(1, 0, 9, 1);
        more.row(1, 3, 64, 1);
        due("leaves 32 and 33 alone are to be looked at", () -> more.round() + told(more), "0(0 0 1)(1 0 9)");
        DigestTrees poked = with(x -> x.row(0, 0, 1, 1));
        poked.row(1, 0, 2, 1);
        poked.row(1, 0, 1, 3);
        poked.begin();
        for (int i = 0; i < 5; i++) {
            poked.round();
        }
        poked.poke(0, 0, 1, 2);
        due("other digests, yet the same v", () -> poked.round() + told(poked), "0(1 0 2)");
        DigestTrees unheld = with(x -> x.row(0, 0, 1, 1));
        unheld.begin();
        for (int i = 0; i < 5; i++) {
            unheld.round();
        }
        unheld.hold(1, 0, false);
        due("it counts no more", () -> unheld.round() + told(unheld), "0");
    }

    private static void termsOfTables() {
        sentence("A TABLE of n cells (n 6 .. 63, a third of it whole: m)", () -> {
            for (int n = 6; n < 64; n += 3) {
                int cells = n;
                due("table(" + n + ")", () -> with(x -> x.row(0, 0, 1, 5)).table(cells), 1);
            }
        });
        sentence("of each ROW that COUNTS a KEY 64 * NODE + number - 1", () -> {
            for (int i : new int[] {0, 1, 63, 64, 127, 128, 191, 192, 254, 255}) {
                DigestTrees x = with(y -> y.row(0, i / 64, i % 64 + 1, i));
                x.table(6);
                same("key " + i, peeled(x), "(0 " + i / 64 + " " + (i % 64 + 1) + " " + i + ")");
            }
            DigestTrees zero = with(y -> y.row(1, 0, 1, 0));
            due("key 0 and v 0", () -> zero.table(6) + peeled(zero), "1(1 0 1 0)");
        });
        sentence("It lies in the cells j * m + (h(j) without a sign, the rest by m)", TermsBoundaryTest::cellsWithoutSign);
        sentence("of SIDE 0 each ROW adds 1 to the count, of SIDE 1 it takes 1 off", () -> {
            DigestTrees x = new DigestTrees();
            fill(x, 0, 200);
            fill(x, 1, 200);
            due("200 on each side undo one another", () -> x.table(6), 0);
            x.poke(1, 3, 1, 1);
            due("as they are, not as they are kept", () -> x.table(63) + peeled(x), "2(1 3 1 1193)(0 3 1 1192)");
            DigestTrees all = new DigestTrees();
            fill(all, 1, 256);
            due("256 of one side", () -> all.table(63), -1);
        });
    }

    /** By the order in which rows are found it is seen in which cells they lie. */
    private static void cellsWithoutSign() {
        boolean below = false;
        for (int n : new int[] {6, 15, 63}) {
            for (int i = 0; i < 60; i++) {
                int at = i;
                int cells = n;
                int left = firstCell(0, 0, 1, i, n);
                int right = firstCell(0, 3, 64, -i, n);
                below |= h(0, bytes(0, 1, i)) < 0;
                if (left != right) {
                    DigestTrees x = with(y -> y.row(0, 0, 1, at));
                    x.row(1, 3, 64, -at);
                    due("rows " + i + " in " + n, () -> x.table(cells) + " " + x.found(0, 0), "2 " + (left < right ? 0 : 1));
                }
            }
        }
        same("hashes below 0 came", below, true);
    }

    private static int h(int j, byte[] row) {
        return s(ByteBuffer.allocate(11).put((byte) j).put(row).array());
    }

    private static int firstCell(int j, int node, int number, long v, int n) {
        return j * (n / 3) + (int) ((h(j, bytes(node, number, v)) & 0xffffffffL) % (n / 3));
    }

    /**
     * Rows of node 0, which a search found for a table of 6 cells: by count, by KEYS, by v or by h(3) alone
     * does their cell differ from 0, or it looks like one of a row that is not there.
     */
    private static void termsOfPeeling() {
        sentence("the first cell whose count is 1 or -1", () -> {
            long[] rows = {2, 2633336, 3, 2633341, 5, 2955105};
            due("count 4 that looks like 16 2955109", () -> counted(rows, 9, 1, 0), "-1");
            due("count 2", () -> counted(rows, 9, 1, 1), "-1");
            due("count -2", () -> counted(new long[] {9, 1}, 2, 2633336, 1, 3, 2633341, 5, 2955105), "-1");
            due("count 0", () -> counted(new long[] {2, 2633336, 3, 2633341}, 5, 2955105, 1, 9, 1), "-1");
            long[] three = {1, 6171006, 2, 6171007};
            due("count 3 that looks like 4 1267879", () -> counted(three, 3, 1267878, 0), "-1");
            due("count 1", () -> counted(three, 3, 1267878, 1), "1(0 0 4 1267879)");
            due("count -1", () -> counted(new long[] {1, 6171006}, 2, 6171007, 1, 3, 1267878), "1(1 0 4 1267879)");
            due("count -3", () -> counted(new long[0], 1, 6171006, 1, 2, 6171007, 3, 1267878), "-1");
        });
        sentence("and whose h(3) is that of the ROW with its KEY and v", () -> {
            due("count 1 of three rows", () -> counted(new long[] {1, 1, 2, 2}, 1, 3, 1), "-1");
            due("count -1 of three rows", () -> counted(new long[] {1, 1}, 1, 3, 1, 2, 2), "-1");
        });
        sentence("taken out of its three cells; and so on from the first cell", () -> {
            // The look-alike lies in cells 0, 2, 4, while it is seen in 1, 3, 5: it comes and goes.
            DigestTrees x = new DigestTrees();
            numbers(x, 0, 1, 1606347, 2, 1606346);
            numbers(x, 1, 3, 1514496);
            due("table(6)", () -> x.table(6), -257);
            for (int k = 0; k < 100; k++) {
                int at = k;
                due("found " + k, () -> x.found(at, 0) + " " + x.found(at, 2) + " " + x.foundValue(at), k % 2 + " 4 1514497");
            }
        });
        sentence("until none is such a one, or 256 were FOUND", TermsBoundaryTest::found256);
        sentence("It is done, if all cells are 0 in all then", () -> {
            long[] four = {1, 6171006, 2, 6171007, 3, 1267878};
            due("but for the count", () -> counted(four, 4, 1267879, 0), "-1");
            due("and by the count too", () -> counted(new long[] {1, 6171006, 2, 6171007}, 3, 1267878, 1, 4, 1267879), "0");
            due("but for KEYS", () -> counted(new long[] {1, 6601054, 2, 6601055}, 3, 1099198, 1, 5, 1099199), "-1");
            due("but for v", () -> counted(new long[] {1, 4137111644167630353L}, 1, -2632615103038082698L, 1), "-1");
            due("but for h(3)", () -> counted(new long[] {2, 7, 20, 7}, 34, 7, 1, 52, 7), "-1");
            due("all", () -> counted(new long[] {1, 7}, 1, 7, 1), "0");
        });
    }

    private static void found256() {
        // The look-alike of cells 0, 2, 4 lies in 1, 3, 5: taking it out leaves cell 0 as it is.
        DigestTrees x = new DigestTrees();
        numbers(x, 0, 1, 84176, 2, 84177);
        numbers(x, 1, 3, 457796);
        due("table(6)", () -> x.table(6), -257);
        for (int k : new int[] {0, 1, 2, 128, 254, 255}) {
            due("found " + k, () -> x.found(k, 0) + " " + x.found(k, 1) + " " + x.found(k, 2) + " " + x.foundValue(k),
                "0 0 4 457797");
        }
        due("no 257th", () -> x.found(256, 0), -1);
        due("no 257th v", () -> x.foundValue(256), NO_ELEMENT);
        x.drop(1, 0, 3);
        x.drop(0, 0, 2);
        due("a table of one thereafter", () -> x.table(6) + peeled(x), "1(0 0 1 84176)");
        due("no second", () -> x.found(1, 0), -1);
    }
}
