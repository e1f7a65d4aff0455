/** Promises 32 to 35: claims are set, granted and judged. */
public final class ClaimsTest {
    private static final int NO = SquareTiler.NO;
    private static final int MOST = 1000000000;

    public static void main(String[] args) {
        claim();
        raise();
        grant();
        judgeWires();
        judgeKnots();
        judgeScale();
        judgeBeyondAnInt();
        judgeRefused();
        claimsStayPut();
        Due.finish("ClaimsTest");
    }

    private static void due(String call, long got, long want) {
        Due.due(call, got, want);
    }

    private static void claim() {
        SquareTiler x = Nets.bridge();
        due("claim(0, 5)", x.claim(0, 5), 0);
        due("claim(0, -7)", x.claim(0, -7), 5);
        due("claim(0, 1000000000)", x.claim(0, MOST), -7);
        due("claim(0, -1000000000)", x.claim(0, -MOST), MOST);
        due("claim(0, 1000000001)", x.claim(0, MOST + 1), NO);
        due("claim(0, -1000000001)", x.claim(0, -MOST - 1), NO);
        due("claim(0, min)", x.claim(0, Integer.MIN_VALUE), NO);
        due("claim(6, 0)", x.claim(6, 0), NO);
        due("claim(-1, 0)", x.claim(-1, 0), NO);
        due("claim: unchanged", x.claim(0, 0), -MOST);
        due("claim(5, 1) of the battery", x.claim(5, 1), 0);
        due("claim(1, 1)", x.claim(1, 1), 0);
    }

    private static void raise() {
        SquareTiler x = Nets.bridge();
        due("raise(0, 5)", x.raise(0, 5), 0);
        due("raise(0, -7)", x.raise(0, -7), 5);
        due("raise(0, 1000000000)", x.raise(0, MOST), -7);
        due("raise(0, -1000000000)", x.raise(0, -MOST), MOST);
        due("raise(0, 1000000001)", x.raise(0, MOST + 1), NO);
        due("raise(0, -1000000001)", x.raise(0, -MOST - 1), NO);
        due("raise(0, max)", x.raise(0, Integer.MAX_VALUE), NO);
        due("raise(4, 0)", x.raise(4, 0), NO);
        due("raise(-1, 0)", x.raise(-1, 0), NO);
        due("raise: unchanged", x.raise(0, 0), -MOST);
        due("raise: wires have claims of their own", x.claim(0, 0), 0);
    }

    private static void grant() {
        SquareTiler x = Nets.bridge();
        x.claim(5, 3);
        x.cut(0, true);
        due("grant()", x.grant(), 6);
        int[] currents = {0, 3, -1, 1, 2, 0};
        int[] heights = {5, 1, 2, 0};
        for (int w = 0; w < 6; w++) {
            due("granted claim " + w, x.claim(w, currents[w]), currents[w]);
        }
        for (int k = 0; k < 4; k++) {
            due("granted raise " + k, x.raise(k, heights[k]), heights[k]);
        }
        due("grant: judge()", x.judge(), 0);
        x.battery(-1);
        x.claim(0, 9);
        due("grant() when not ready", x.grant(), NO);
        due("grant: unchanged", x.claim(0, 9), 9);
    }

    private static SquareTiler granted() {
        SquareTiler x = Nets.bridge();
        x.grant();
        return x;
    }

    private static void judgeWires() {
        SquareTiler x = granted();
        due("judge()", x.judge(), 0);
        x.claim(5, 1);
        due("judge() of the battery's claim", x.judge(), 1005);
        x.claim(4, 7);
        due("judge() of the least wire", x.judge(), 1004);
        x.claim(2, 1);
        due("judge() of a wire without current", x.judge(), 1002);
        SquareTiler y = granted();
        y.cut(2, true);
        due("judge() with a cut wire", y.judge(), 0);
        y.claim(2, -1);
        due("judge() of a cut wire", y.judge(), 1002);
        y.cut(0, true);
        due("judge() of a wire newly cut", y.judge(), 1000);
        SquareTiler z = granted();
        z.raise(1, 0);
        due("judge() of a height", z.judge(), 1000);
    }

    private static void judgeKnots() {
        SquareTiler x = granted();
        // Knot 2 is claimed at 0: its wires agree with it, but what flows in does not flow out.
        x.raise(2, 0);
        x.claim(1, 2);
        x.claim(2, 1);
        x.claim(4, 0);
        due("judge() of the least knot", x.judge(), 2001);
        x.raise(1, 0);
        x.claim(0, 2);
        x.claim(2, 0);
        x.claim(3, 0);
        due("judge() of knot 1 still", x.judge(), 2001);
        SquareTiler y = Nets.chain(4);
        y.grant();
        y.raise(2, 0);
        y.raise(1, 0);
        y.raise(0, 0);
        y.claim(1, 0);
        y.claim(2, 0);
        y.claim(3, 0);
        due("judge() of no current at all", y.judge(), 4000);
        y.raise(0, 2);
        y.raise(1, 1);
        y.claim(1, 1);
        y.claim(2, 1);
        due("judge() of knot 2", y.judge(), 2002);
        SquareTiler z = Nets.chain(4);
        z.battery(2);
        z.grant();
        due("judge() with knot 0 between", z.judge(), 0);
        z.raise(0, 9);
        z.claim(0, 8);
        z.claim(1, 6);
        due("judge() of knot 0", z.judge(), 2000);
    }

    private static void raiseAll(SquareTiler x, int... heights) {
        for (int k = 0; k < heights.length; k++) {
            x.raise(k, heights[k]);
        }
    }

    private static void claimAll(SquareTiler x, int... currents) {
        for (int w = 0; w < currents.length; w++) {
            x.claim(w, currents[w]);
        }
    }

    private static void judgeScale() {
        SquareTiler x = granted();
        raiseAll(x, 3, 2, 2, 1);
        due("judge() with the foot above 0", x.judge(), 3000);
        raiseAll(x, 1, 0, 0, -1);
        due("judge() with the foot below 0", x.judge(), 3000);
        raiseAll(x, -2, -1, -1, 0);
        claimAll(x, -1, -1, 0, -1, -1, 0);
        due("judge() upside down", x.judge(), 4000);
        raiseAll(x, 0, 0, 0, 0);
        claimAll(x, 0, 0, 0, 0, 0, 0);
        due("judge() of nothing", x.judge(), 4000);
        raiseAll(x, 4, 2, 2, 0);
        claimAll(x, 2, 2, 0, 2, 2, 0);
        due("judge() twice as large", x.judge(), 5000);
        raiseAll(x, 2, 1, 1, 0);
        claimAll(x, 1, 1, 0, 1, 1, 0);
        due("judge() as it is", x.judge(), 0);
        SquareTiler y = Nets.bridge();
        y.cut(0, true);
        raiseAll(y, 35, 7, 14, 0);
        claimAll(y, 0, 21, -7, 7, 14, 0);
        due("judge() seven times as large", y.judge(), 5000);
        SquareTiler one = Nets.bundle(2);
        raiseAll(one, 1, 0);
        claimAll(one, 1, 0);
        due("judge() of a single square", one.judge(), 0);
        raiseAll(one, 2, 0);
        claimAll(one, 2, 0);
        due("judge() of a single square, doubled", one.judge(), 5000);
        raiseAll(one, MOST, 0);
        claimAll(one, MOST, 0);
        due("judge() of a single square, at the most", one.judge(), 5000);
    }

    /** What flows out of knot 1 is 2 to the 32nd together, which an int would take for 0. */
    private static void judgeBeyondAnInt() {
        SquareTiler x = new SquareTiler();
        for (int k = 0; k < 3; k++) {
            x.knot();
        }
        for (int w = 0; w < 4; w++) {
            x.wire(1, 2);
        }
        x.wire(1, 0);
        x.wire(0, 2);
        x.battery(5);
        Nets.layRow(x, 1, 0, 1, 2, 3, 4);
        Nets.layRow(x, 2, 5, 3, 2, 1, 0);
        Nets.layRow(x, 0, 4, 5);
        due("beyond an int: cause()", x.cause(), 0);
        raiseAll(x, MOST - 294967296, MOST, 0);
        claimAll(x, MOST, MOST, MOST, MOST, 294967296, 0);
        due("beyond an int: judge()", x.judge(), 2001);
        raiseAll(x, -MOST, MOST, 0);
        claimAll(x, MOST, MOST, MOST, MOST, -MOST, 0);
        due("beyond a claim: judge()", x.judge(), 1004);
    }

    private static void judgeRefused() {
        SquareTiler x = granted();
        x.battery(-1);
        due("judge() without a battery", x.judge(), NO);
        x.battery(5);
        x.bare(0);
        due("judge() without a turn", x.judge(), NO);
        due("judge() of an empty net", new SquareTiler().judge(), NO);
    }

    private static void claimsStayPut() {
        SquareTiler x = granted();
        x.mirror();
        due("mirror: judge()", x.judge(), 0);
        x.battery(0);
        x.battery(5);
        x.cut(1, true);
        x.cut(1, false);
        due("battery and cut: judge()", x.judge(), 0);
        x.clear();
        for (int k = 0; k < 4; k++) {
            x.knot();
            due("clear: raise", x.raise(k, 0), 0);
        }
        x.wire(0, 1);
        due("clear: claim", x.claim(0, 0), 0);
    }
}
