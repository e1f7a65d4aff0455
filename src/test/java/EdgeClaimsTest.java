/**
 * The boundary cases of promises 32 to 35, each sentence by itself: the last input that is taken, the first one that
 * is refused, and all that the call changes.
 */
public final class EdgeClaimsTest {
    private static final int MIN = Edge.MIN;
    private static final int MAX = Edge.MAX;
    private static final int MOST = 1000000000;

    public static void main(String[] args) {
        claim();
        raise();
        grant();
        judgeWire();
        judgeKnot();
        judgeKnotOfMany();
        judgePoles();
        judgeDivisor();
        judgeFirst();
        judgeRefused();
        Due.finish("EdgeClaimsTest");
    }

    /** Promise 32: the CLAIM of a wire becomes v: what it was. NO: no such wire, or v is not as it may be. */
    private static void claim() {
        Edge.takes("claim(0, 1000000000)", Nets::rich, x -> x.claim(0, MOST), 10, "wire 0: 0-1 cut 1000000000");
        Edge.takes("claim(5, -1000000000)", Nets::rich, x -> x.claim(5, -MOST), 15, "wire 5: 0-3 battery -1000000000");
        Edge.takes("claim(1, 0)", Nets::rich, x -> x.claim(1, 0), 11, "wire 1: 0-2 plain 0");
        Edge.tells("claim(1, 11) that it is", Nets::rich, x -> x.claim(1, 11), 11);
        Edge.tells("claim() behind the most", Edge.then(Nets::rich, x -> x.claim(1, MOST)), x -> x.claim(1, MOST),
                MOST);
        Edge.tells("claim() behind the least", Edge.then(Nets::rich, x -> x.claim(1, -MOST)), x -> x.claim(1, -MOST),
                -MOST);
        Edge.tells("claim(0, 0) of a new wire", () -> Nets.bundle(1), x -> x.claim(0, 0), 0);
        Edge.takes("claim(21, 1), the last of 22", Nets::brimful, x -> x.claim(21, 1), 321, "wire 21: 10-11 plain 1");
        for (int w : new int[] {-1, 6, 22, MIN, MAX}) {
            Edge.refused("claim(" + w + ", 0), no such wire", Nets::rich, x -> x.claim(w, 0));
        }
        Edge.refused("claim(22, 0), no such wire of 22", Nets::brimful, x -> x.claim(22, 0));
        for (int v : new int[] {MOST + 1, -MOST - 1, MIN, MAX, Edge.NO}) {
            Edge.refused("claim(0, " + v + ")", Nets::rich, x -> x.claim(0, v));
            Edge.refused("claim(5, " + v + ")", Nets::rich, x -> x.claim(5, v));
        }
    }

    /** Promise 33: the CLAIM of a knot becomes v: what it was. NO: no such knot, or v is not as by claim(). */
    private static void raise() {
        Edge.takes("raise(0, 1000000000)", Nets::rich, x -> x.raise(0, MOST), 20, "knot 0: [5 0 1] at 1000000000");
        Edge.takes("raise(3, -1000000000)", Nets::rich, x -> x.raise(3, -MOST), 23, "knot 3: [4 3 5] at -1000000000");
        Edge.takes("raise(1, 0)", Nets::rich, x -> x.raise(1, 0), 21, "knot 1: [2 0 3] at 0");
        Edge.tells("raise(1, 21) that it is", Nets::rich, x -> x.raise(1, 21), 21);
        Edge.tells("raise() behind the most", Edge.then(Nets::rich, x -> x.raise(1, MOST)), x -> x.raise(1, MOST),
                MOST);
        Edge.tells("raise() behind the least", Edge.then(Nets::rich, x -> x.raise(1, -MOST)), x -> x.raise(1, -MOST),
                -MOST);
        Edge.tells("raise(0, 0) of a new knot", () -> Nets.lone(1), x -> x.raise(0, 0), 0);
        Edge.takes("raise(11, 1), the last of twelve", Nets::brimful, x -> x.raise(11, 1), 411, "knot 11: [21 0] at 1");
        for (int k : new int[] {-1, 4, 12, MIN, MAX}) {
            Edge.refused("raise(" + k + ", 0), no such knot", Nets::rich, x -> x.raise(k, 0));
        }
        Edge.refused("raise(12, 0), no such knot of twelve", Nets::brimful, x -> x.raise(12, 0));
        for (int v : new int[] {MOST + 1, -MOST - 1, MIN, MAX, Edge.NO}) {
            Edge.refused("raise(0, " + v + ")", Nets::rich, x -> x.raise(0, v));
            Edge.refused("raise(3, " + v + ")", Nets::rich, x -> x.raise(3, v));
        }
    }

    /** Promise 34: CLAIMS become what THE FLOW is: how many wires. */
    private static void grant() {
        Edge.takes("grant()", Nets::rich, x -> x.grant(), 6, "knot 0: [5 0 1] at 5", "knot 1: [2 0 3] at 1",
                "knot 2: [1 2 4] at 2", "knot 3: [4 3 5] at 0", "wire 0: 0-1 cut 0", "wire 1: 0-2 plain 3",
                "wire 2: 1-2 plain -1", "wire 3: 1-3 plain 1", "wire 4: 2-3 plain 2", "wire 5: 0-3 battery 0");
        Edge.tells("grant() again", Edge.then(Nets::rich, x -> x.grant()), x -> x.grant(), 6);
        Edge.takes("grant() of the least net", () -> Nets.bundle(2), x -> x.grant(), 2, "knot 0: [0 1] at 1",
                "wire 0: 0-1 plain 1");
        SquareTiler x = Nets.brimful();
        Due.due("grant() of 22 wires", x.grant(), 22);
        Due.due("grant: the battery's claim", x.claim(0, 0), 0);
        Due.due("grant: the last wire's claim", x.claim(21, 2), 2);
        Due.due("grant: the first knot's claim", x.raise(0, 12), 12);
        Due.due("grant: the last knot's claim", x.raise(11, 0), 0);
        Due.due("grant: judge()", x.judge(), 0);
    }

    private static SquareTiler granted() {
        SquareTiler x = Nets.rich();
        x.grant();
        return x;
    }

    private static SquareTiler grantedFan() {
        SquareTiler x = Nets.fan();
        x.grant();
        return x;
    }

    private static void dueJudge(String label, Edge.Made made, int want) {
        Edge.tells("judge() " + label, made, x -> x.judge(), want);
    }

    /** Promise 35: 1000 and the least wire whose CLAIM is not what its ends make of it (PLAIN), not 0 (others). */
    private static void judgeWire() {
        dueJudge("of the flow", EdgeClaimsTest::granted, 0);
        dueJudge("of the flow of 22 wires", EdgeClaimsTest::grantedFan, 0);
        for (int w = 0; w < 6; w++) {
            for (int more : new int[] {-1, 1}) {
                int wire = w;
                int claim = granted().current(w) + more;
                dueJudge("of wire " + w + " by " + more, Edge.then(EdgeClaimsTest::granted, x -> x.claim(wire, claim)),
                        1000 + w);
            }
        }
        dueJudge("of wire 21", Edge.then(EdgeClaimsTest::grantedFan, x -> x.claim(21, 1)), 1021);
        dueJudge("of wire 20", Edge.then(EdgeClaimsTest::grantedFan, x -> x.claim(20, 55)), 1020);
        dueJudge("of the least of two", Edge.then(Edge.then(EdgeClaimsTest::granted, x -> x.claim(4, 9)),
                x -> x.claim(2, 9)), 1002);
        dueJudge("of a wire by its first end", Edge.then(EdgeClaimsTest::granted, x -> x.raise(2, 3)), 1001);
        dueJudge("of a cut wire, as its ends would make it", Edge.then(EdgeClaimsTest::granted, x -> x.claim(0, 4)),
                1000);
        dueJudge("of the battery, as its ends would make it", Edge.then(EdgeClaimsTest::granted, x -> x.claim(5, 5)),
                1005);
        // The ends are 2000000000 apart, which no claim can be, and which is an int still.
        dueJudge("of ends as far apart as can be", () -> claimed(Nets.bundle(2), new int[] {MOST, -MOST}, MOST, 0),
                1000);
        dueJudge("of ends as far apart the other way", () -> claimed(Nets.bundle(2), new int[] {-MOST, MOST}, -MOST, 0),
                1000);
    }

    private static SquareTiler claimed(SquareTiler x, int[] heights, int... currents) {
        for (int k = 0; k < heights.length; k++) {
            x.raise(k, heights[k]);
        }
        for (int w = 0; w < currents.length; w++) {
            x.claim(w, currents[w]);
        }
        return x;
    }

    /** The heights are claimed, and each wire as they make it: only knots and poles can be wrong. */
    private static SquareTiler agreed(SquareTiler x, int... heights) {
        int wires = x.count(1);
        for (int w = 0; w < wires; w++) {
            x.claim(w, x.of(w, 2) == 0 ? heights[x.of(w, 0)] - heights[x.of(w, 1)] : 0);
        }
        return claimed(x, heights);
    }

    /** 2000 and the least knot, but the BATTERY's ends, at which what begins is not together what ends there. */
    private static void judgeKnot() {
        dueJudge("of knot 1 alone", () -> agreed(Nets.chain(4), 4, 3, 1, -1), 2001);
        dueJudge("of knot 2 alone", () -> agreed(Nets.chain(4), 3, 2, 1, -1), 2002);
        dueJudge("of the least of two knots", () -> agreed(Nets.chain(4), 4, 3, 1, 0), 2001);
        dueJudge("of a knot where more begins", () -> agreed(Nets.chain(3), 4, 3, 0), 2001);
        dueJudge("of a knot where more ends", () -> agreed(Nets.chain(3), 4, 1, 0), 2001);
        dueJudge("of no knot but the poles", () -> agreed(Nets.chain(3), 2, 1, 0), 0);
        // The battery is wire 2, from knot 1 to knot 2: knots 0 and 3 lie between.
        Edge.Made across = Edge.then(() -> Nets.chain(4), x -> x.battery(2));
        dueJudge("of the flow with poles in the midst", () -> agreed(across.make(), 2, 3, 0, 1), 0);
        dueJudge("of knot 0", () -> agreed(across.make(), 1, 3, 0, 1), 2000);
        dueJudge("of knot 3, the last", () -> agreed(across.make(), 4, 5, 0, 3), 2003);
        // At the poles three claims together are beyond an int; the poles are not looked at.
        dueJudge("of poles beyond an int", () -> agreed(Nets.bundle(4), MOST, 0), 5000);
    }

    /** The hub of the fan, knot 11, is the only one that is not even: 3 a = b + c holds all along the row. */
    private static void judgeKnotOfMany() {
        int[] above = {4181, 1597, 610, 233, 89, 34, 13, 5, 2, 1, 1};
        int[] heights = new int[12];
        for (int k = 0; k < 11; k++) {
            heights[k] = above[k] - 1;
        }
        heights[11] = -1;
        dueJudge("of knot 11", () -> agreed(Nets.fan(), heights), 2011);
    }

    /** 3000 when the SECOND END's is not 0; 4000 when the FIRST END's is not above 0. */
    private static void judgePoles() {
        dueJudge("of a second end at 1", () -> agreed(Nets.bundle(2), 2, 1), 3000);
        dueJudge("of a second end at -1", () -> agreed(Nets.bundle(2), 0, -1), 3000);
        dueJudge("of a second end at the most", () -> agreed(Nets.bundle(2), MOST, MOST), 3000);
        dueJudge("of a first end at 0", () -> agreed(Nets.bundle(2), 0, 0), 4000);
        dueJudge("of a first end at -1", () -> agreed(Nets.bundle(2), -1, 0), 4000);
        dueJudge("of a first end at 1", () -> agreed(Nets.bundle(2), 1, 0), 0);
        dueJudge("of claims as they are at first", () -> Nets.bundle(2), 4000);
        dueJudge("of claims as they are at first, of 22 wires", Nets::full, 4000);
    }

    /** 5000 when all CLAIMS of wires have a common divisor above 1. */
    private static void judgeDivisor() {
        dueJudge("of twice the flow", () -> agreed(Nets.bundle(2), 2, 0), 5000);
        dueJudge("of 1000000000 times the flow", () -> agreed(Nets.bundle(2), MOST, 0), 5000);
        dueJudge("of 999999937 times the flow, a prime", () -> agreed(Nets.bundle(2), 999999937, 0), 5000);
        dueJudge("of twice a flow with 0 and signs", () -> agreed(Nets.rich(), 10, 2, 4, 0), 5000);
        dueJudge("of three times that flow", () -> agreed(Nets.rich(), 15, 3, 6, 0), 5000);
        dueJudge("of that flow", () -> agreed(Nets.rich(), 5, 1, 2, 0), 0);
        dueJudge("of a last claim below 0", () -> agreed(upwards(), 2, 0), 5000);
        dueJudge("of a last claim of -1", () -> agreed(upwards(), 1, 0), 0);
        dueJudge("of 2 before 1", () -> agreed(twoBeforeOne(), 3, 1, 0), 0);
        dueJudge("of 4 before 2", () -> agreed(twoBeforeOne(), 6, 2, 0), 5000);
    }

    /** The battery goes down, and the last wire goes up. */
    private static SquareTiler upwards() {
        SquareTiler x = Nets.lone(2);
        x.wire(0, 1);
        x.wire(1, 0);
        x.battery(0);
        Nets.layRow(x, 0, 0, 1);
        Nets.layRow(x, 1, 1, 0);
        return x;
    }

    /** The battery, a wire that is cut and one of side 2 come before two of side 1: as many wires as knots are even. */
    private static SquareTiler twoBeforeOne() {
        SquareTiler x = Nets.lone(3);
        x.wire(0, 2);
        x.wire(0, 1);
        x.wire(0, 1);
        x.wire(1, 2);
        x.wire(1, 2);
        x.battery(0);
        x.cut(1, true);
        Nets.layRow(x, 0, 0, 1, 2);
        Nets.layRow(x, 1, 1, 3, 4, 2);
        Nets.layRow(x, 2, 4, 3, 0);
        return x;
    }

    /** The first of these: each one beside each later one. */
    private static void judgeFirst() {
        Edge.Made uneven = () -> agreed(Nets.chain(3), 4, 3, 1);
        dueJudge("1000 before 2000", Edge.then(uneven, x -> x.claim(0, 1)), 1000);
        dueJudge("2000 before 3000", uneven, 2001);
        dueJudge("2000 before 4000", () -> agreed(Nets.chain(3), -4, 3, 0), 2001);
        dueJudge("2000 before 5000", () -> agreed(Nets.chain(3), 6, 4, 0), 2001);
        dueJudge("3000 before 4000", () -> agreed(Nets.chain(3), -1, 0, 1), 3000);
        dueJudge("3000 before 5000", () -> agreed(Nets.chain(3), 6, 4, 2), 3000);
        dueJudge("4000 before 5000", () -> agreed(Nets.chain(3), -4, -2, 0), 4000);
        dueJudge("1000 before 3000", () -> claimed(Nets.bundle(2), new int[] {2, 1}, 2, 0), 1000);
        dueJudge("1000 before 4000", () -> claimed(Nets.bundle(2), new int[] {0, 0}, 1, 0), 1000);
        dueJudge("1000 before 5000", () -> claimed(Nets.bundle(2), new int[] {2, 0}, 2, 2), 1001);
    }

    /** NO: the net is not READY, though the claims would be a flow. Each cause is asked in EdgeAnswersTest. */
    private static void judgeRefused() {
        Edge.refused("judge() without a battery", Edge.then(EdgeClaimsTest::granted, x -> x.battery(-1)),
                x -> x.judge());
        Edge.refused("judge() with a lone knot", Edge.then(EdgeClaimsTest::granted, x -> x.knot()), x -> x.judge());
        Edge.refused("grant() without a turn", Edge.then(EdgeClaimsTest::granted, x -> x.bare(0)), x -> x.grant());
        Edge.refused("judge() of an empty net", Nets::blank, x -> x.judge());
    }
}
