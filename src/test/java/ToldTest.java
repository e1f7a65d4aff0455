/** Promises 26 to 31: told squares, how they fit, and the net that is read of them. */
public final class ToldTest {
    private static final int NO = SquareTiler.NO;
    private static final int MIN = Integer.MIN_VALUE;
    private static final int MAX = Integer.MAX_VALUE;
    private static final int MILLION = 1000000;

    public static void main(String[] args) {
        tell();
        alter();
        hush();
        copy();
        fit();
        fitOrder();
        fitOfTheLargest();
        read();
        readLines();
        readRefused();
        readTheLargest();
        Due.finish("ToldTest");
    }

    private static void due(String call, long got, long want) {
        Due.due(call, got, want);
    }

    private static void tell() {
        SquareTiler x = new SquareTiler();
        due("tell(-1, 0, 1)", x.tell(-1, 0, 1), NO);
        due("tell(0, -1, 1)", x.tell(0, -1, 1), NO);
        due("tell(0, 0, 0)", x.tell(0, 0, 0), NO);
        due("tell(0, 0, -1)", x.tell(0, 0, -1), NO);
        due("tell(1000001, 0, 1)", x.tell(MILLION + 1, 0, 1), NO);
        due("tell(0, 1000001, 1)", x.tell(0, MILLION + 1, 1), NO);
        due("tell(0, 0, 1000001)", x.tell(0, 0, MILLION + 1), NO);
        due("tell(min, min, min)", x.tell(MIN, MIN, MIN), NO);
        due("tell: none", x.count(2), 0);
        due("tell(1000000, 1000000, 1000000)", x.tell(MILLION, MILLION, MILLION), 1);
        for (int i = 1; i < 21; i++) {
            due("tell(0, 0, 1)", x.tell(0, 0, 1), i + 1);
        }
        due("tell() the 22nd", x.tell(0, 0, 1), NO);
        due("tell: 21", x.count(2), 21);
    }

    private static void alter() {
        SquareTiler x = new SquareTiler();
        due("alter(0, 0, 1) without squares", x.alter(0, 0, 1), NO);
        x.tell(1, 2, 3);
        x.tell(4, 5, 6);
        due("alter(1, 0, 7)", x.alter(1, 0, 7), 4);
        due("alter(1, 1, 8)", x.alter(1, 1, 8), 5);
        due("alter(1, 2, 9)", x.alter(1, 2, 9), 6);
        due("alter(0, 0, 0)", x.alter(0, 0, 0), 1);
        due("alter(0, 1, 0)", x.alter(0, 1, 0), 2);
        due("alter(0, 2, 0)", x.alter(0, 2, 0), NO);
        due("alter(0, 0, -1)", x.alter(0, 0, -1), NO);
        due("alter(0, 1, -1)", x.alter(0, 1, -1), NO);
        due("alter(0, 0, 1000001)", x.alter(0, 0, MILLION + 1), NO);
        due("alter(0, 1, 1000001)", x.alter(0, 1, MILLION + 1), NO);
        due("alter(0, 2, 1000001)", x.alter(0, 2, MILLION + 1), NO);
        due("alter(0, 3, 1)", x.alter(0, 3, 1), NO);
        due("alter(0, -1, 1)", x.alter(0, -1, 1), NO);
        due("alter(2, 0, 1)", x.alter(2, 0, 1), NO);
        due("alter(-1, 0, 1)", x.alter(-1, 0, 1), NO);
        due("alter(0, 0, 1000000)", x.alter(0, 0, MILLION), 0);
        due("alter(0, 1, 1000000)", x.alter(0, 1, MILLION), 0);
        due("alter(0, 2, 1000000)", x.alter(0, 2, MILLION), 3);
        due("alter(0, 2, 1)", x.alter(0, 2, 1), MILLION);
        due("alter(1, 0, 0)", x.alter(1, 0, 0), 7);
        due("alter(1, 1, 0)", x.alter(1, 1, 0), 8);
        due("alter(1, 2, 1)", x.alter(1, 2, 1), 9);
    }

    private static void hush() {
        SquareTiler x = Nets.bridge();
        x.tell(1, 2, 3);
        x.tell(1, 2, 3);
        due("hush()", x.hush(), 2);
        due("hush: count(2)", x.count(2), 0);
        due("hush() again", x.hush(), 0);
        due("hush: alter", x.alter(0, 0, 0), NO);
        due("hush: the net stays", x.count(1), 6);
        due("hush: tell", x.tell(0, 0, 1), 1);
    }

    private static void dueTold(SquareTiler x, int i, int left, int low, int side) {
        due("told left " + i, x.alter(i, 0, left), left);
        due("told low " + i, x.alter(i, 1, low), low);
        due("told side " + i, x.alter(i, 2, side), side);
    }

    private static void copy() {
        SquareTiler x = Nets.bridge();
        x.tell(9, 9, 9);
        x.cut(0, true);
        due("copy()", x.copy(), 4);
        due("copy: count(2)", x.count(2), 4);
        dueTold(x, 0, 0, 2, 3);
        dueTold(x, 1, 0, 1, 1);
        dueTold(x, 2, 0, 0, 1);
        dueTold(x, 3, 1, 0, 2);
        due("copy: fit(3, 5)", x.fit(3, 5), 0);
        x.alter(0, 0, 7);
        due("copy: the laying is not altered", x.square(1, 0), 0);
        x.battery(-1);
        due("copy() when not ready", x.copy(), NO);
        due("copy: told squares stay", x.count(2), 4);
        due("copy: told squares stay", x.alter(0, 0, 0), 7);
        SquareTiler all = Nets.bundle(22);
        due("copy() of 21", all.copy(), 21);
        dueTold(all, 20, 20, 0, 1);
        due("copy: fit(21, 1)", all.fit(21, 1), 0);
    }

    private static SquareTiler four() {
        SquareTiler x = new SquareTiler();
        x.tell(0, 0, 1);
        x.tell(1, 0, 1);
        x.tell(0, 1, 1);
        x.tell(1, 1, 1);
        return x;
    }

    private static void fit() {
        SquareTiler x = new SquareTiler();
        due("fit(1, 1) without squares", x.fit(1, 1), NO);
        x = four();
        due("fit(2, 2)", x.fit(2, 2), 0);
        due("fit(0, 2)", x.fit(0, 2), NO);
        due("fit(2, 0)", x.fit(2, 0), NO);
        due("fit(1000001, 2)", x.fit(MILLION + 1, 2), NO);
        due("fit(2, 1000001)", x.fit(2, MILLION + 1), NO);
        due("fit(min, max)", x.fit(MIN, MAX), NO);
        due("fit(1, 2)", x.fit(1, 2), 101);
        due("fit(2, 1)", x.fit(2, 1), 102);
        due("fit(3, 2)", x.fit(3, 2), 3);
        due("fit(1000000, 1000000)", x.fit(MILLION, MILLION), 3);
        due("fit: squares stay", x.count(2), 4);
        x.alter(3, 0, 0);
        due("fit() of an overlap", x.fit(2, 2), 1000 + 30 * 2 + 3);
        x.alter(1, 0, 0);
        due("fit() of the least overlap", x.fit(2, 2), 1000 + 1);
    }

    /** What stands out comes before what overlaps; a square overlaps a later one, the least such. */
    private static void fitOrder() {
        SquareTiler x = new SquareTiler();
        x.tell(0, 0, 2);
        x.tell(5, 5, 2);
        x.tell(6, 6, 2);
        x.tell(1, 1, 2);
        due("fit() stands out before overlaps", x.fit(7, 7), 102);
        due("fit() the least one, then its least", x.fit(8, 8), 1000 + 3);
        x.alter(3, 0, 2);
        due("fit() of 1 and 2", x.fit(8, 8), 1000 + 30 + 2);
        x.alter(2, 1, 4);
        due("fit() overlaps by part of a side", x.fit(8, 8), 1000 + 30 + 2);
        x.alter(2, 0, 7);
        due("fit() only touches", x.fit(9, 9), 3);
        for (int i = 4; i < 21; i++) {
            x.tell(20 + i, 20, 1);
        }
        due("fit() the last stands out", x.fit(40, 40), 120);
        x.alter(20, 0, 39);
        due("fit() the last two overlap", x.fit(41, 41), 1000 + 30 * 19 + 20);
    }

    private static void fitOfTheLargest() {
        SquareTiler x = new SquareTiler();
        x.tell(0, 0, MILLION);
        due("fit(1000000, 1000000)", x.fit(MILLION, MILLION), 0);
        due("fit(1000000, 999999)", x.fit(MILLION, MILLION - 1), 100);
        due("fit(999999, 1000000)", x.fit(MILLION - 1, MILLION), 100);
        x.tell(MILLION, MILLION, MILLION);
        due("fit() far outside", x.fit(MILLION, MILLION), 101);
        x.hush();
        // 65536 by 65536 is 2 to the 32nd: an area counted in an int would be 0.
        x.tell(0, 0, 65536);
        due("fit(65536, 65536)", x.fit(65536, 65536), 0);
        due("fit(65536, 131072)", x.fit(65536, 131072), 3);
    }

    private static void read() {
        SquareTiler x = Nets.bridge();
        x.cut(0, true);
        x.claim(0, 5);
        x.raise(0, 5);
        Nets.tellPerfect(x);
        due("read(33, 32)", x.read(33, 32), 6);
        due("read: told squares stay", x.count(2), 9);
        due("read: wires", x.count(1), 10);
        due("read: battery", x.count(3), 9);
        int[][] ends = {{0, 2}, {0, 1}, {1, 3}, {1, 4}, {2, 5}, {2, 3}, {3, 5}, {3, 4}, {4, 5}, {0, 5}};
        for (int w = 0; w < 10; w++) {
            Due.dueEnds(x, w, ends[w][0], ends[w][1]);
            due("read: kind", x.of(w, 2), w == 9 ? 2 : 0);
            due("read: claim", x.claim(w, 0), 0);
        }
        for (int k = 0; k < 6; k++) {
            due("read: raise", x.raise(k, 0), 0);
        }
        Due.dueTurn(x, 0, 0, 1, 9);
        Due.dueTurn(x, 1, 2, 3, 1);
        Due.dueTurn(x, 2, 4, 5, 0);
        Due.dueTurn(x, 3, 6, 7, 2, 5);
        Due.dueTurn(x, 4, 8, 3, 7);
        Due.dueTurn(x, 5, 9, 8, 6, 4);
        due("read: cause()", x.cause(), 0);
        x.copy();
        dueTold(x, 7, 24, 9, 1);
        dueTold(x, 4, 0, 0, 14);
    }

    /** Edges that only touch in a point are one line; edges apart at the same height are two. */
    private static void readLines() {
        SquareTiler x = four();
        due("read(2, 2) with a cross", x.read(2, 2), 3);
        Due.dueTurn(x, 0, 2, 3, 4);
        Due.dueTurn(x, 1, 0, 1, 3, 2);
        Due.dueTurn(x, 2, 4, 1, 0);
        x.hush();
        x.tell(0, 0, 1);
        due("read(1, 1)", x.read(1, 1), 2);
        Due.dueEnds(x, 0, 0, 1);
        Due.dueEnds(x, 1, 0, 1);
        Due.dueTurn(x, 0, 0, 1);
        Due.dueTurn(x, 1, 1, 0);
        x.hush();
        // Two pairs of small squares, with a large one between them: the lines at 1 stand apart.
        x.tell(3, 0, 1);
        x.tell(3, 1, 1);
        x.tell(1, 0, 2);
        x.tell(0, 1, 1);
        x.tell(0, 0, 1);
        due("read(4, 2) with lines apart", x.read(4, 2), 4);
        Due.dueEnds(x, 0, 2, 3);
        Due.dueEnds(x, 1, 0, 2);
        Due.dueEnds(x, 2, 0, 3);
        Due.dueEnds(x, 3, 0, 1);
        Due.dueEnds(x, 4, 1, 3);
        Due.dueTurn(x, 0, 3, 2, 1, 5);
        Due.dueTurn(x, 1, 4, 3);
        Due.dueTurn(x, 2, 0, 1);
        Due.dueTurn(x, 3, 5, 0, 2, 4);
    }

    private static void readRefused() {
        SquareTiler x = Nets.bridge();
        due("read(1, 1) without squares", x.read(1, 1), NO);
        x.tell(0, 0, 1);
        due("read(0, 1)", x.read(0, 1), NO);
        due("read(2, 1) not covered", x.read(2, 1), NO);
        x.tell(1, 0, 1);
        due("read(1, 1) stands out", x.read(1, 1), NO);
        x.alter(1, 0, 0);
        due("read(1, 1) overlaps", x.read(1, 1), NO);
        due("read: the net stays", x.count(1), 6);
        due("read: it is ready", x.cause(), 0);
        x.hush();
        for (int i = 0; i < 11; i++) {
            x.tell(0, i, 1);
        }
        due("read(1, 11)", x.read(1, 11), 12);
        x.tell(0, 11, 1);
        x.claim(0, 3);
        due("read(1, 12) would have 13 knots", x.read(1, 12), NO);
        due("read: the net stays", x.count(1), 12);
        due("read: claims stay", x.claim(0, 3), 3);
    }

    private static void readTheLargest() {
        SquareTiler x = new SquareTiler();
        for (int i = 0; i < 21; i++) {
            x.tell(20 - i, 0, 1);
        }
        due("read(21, 1)", x.read(21, 1), 2);
        due("read: 22 wires", x.count(1), 22);
        due("read: battery", x.count(3), 21);
        due("read: the first is the rightmost", x.turn(0, 0), 20);
        due("read: behind all the battery", x.turn(0, 21), 21);
        due("read: the battery first", x.turn(1, 0), 21);
        due("read: then the rightmost", x.turn(1, 1), 0);
        x.hush();
        x.tell(0, 0, MILLION);
        due("read(1000000, 1000000)", x.read(MILLION, MILLION), 2);
        due("read: rectangle", x.rectangle(0), 1);
    }
}
