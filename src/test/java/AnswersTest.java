/** Promises 13 to 25 and 36: what is told of a net. */
public final class AnswersTest {
    private static final int NO = SquareTiler.NO;
    private static final int MIN = Integer.MIN_VALUE;
    private static final int MAX = Integer.MAX_VALUE;

    public static void main(String[] args) {
        cause();
        of();
        turn();
        faces();
        trees();
        theFlow();
        thePoles();
        place();
        rectangle();
        perfectOrNot();
        square();
        within();
        withinTies();
        at();
        refusedWhenNotReady();
        count();
        theFullNet();
        Due.finish("AnswersTest");
    }

    private static void due(String call, long got, long want) {
        Due.due(call, got, want);
    }

    /** Wire 0 of the bridge is cut: 3 on top, under it two of side 1 at the left, one of side 2. */
    private static SquareTiler cutBridge() {
        SquareTiler x = Nets.bridge();
        x.cut(0, true);
        return x;
    }

    private static void cause() {
        SquareTiler x = Nets.bridgeWithoutTurns();
        x.battery(-1);
        due("cause() 1 comes first", x.cause(), 1);
        x.battery(5);
        due("cause() 2", x.cause(), 2);
        x = Nets.bridge();
        due("cause() 0", x.cause(), 0);
        x.knot();
        due("cause() 3", x.cause(), 3);
        x.wire(4, 3);
        due("cause() 2 before 3", x.cause(), 2);
        x.lay(4, 6);
        x.lay(3, 6);
        due("cause() 0 with a loose end", x.cause(), 0);
        x.cut(6, true);
        due("cause() 4", x.cause(), 4);
        x.cut(6, false);
        x.battery(6);
        due("cause() 4 by the battery", x.cause(), 4);
        x = Nets.bridge();
        x.bare(1);
        Nets.layRow(x, 1, 0, 2, 3);
        due("cause() 5", x.cause(), 5);
        x.cut(0, true);
        x.cut(1, true);
        due("cause() 4 before 5", x.cause(), 4);
        x = Nets.bridge();
        x.bare(1);
        Nets.layRow(x, 1, 2, 0);
        due("cause() 2 when one lacks", x.cause(), 2);
        twoRings();
    }

    private static void twoRings() {
        SquareTiler x = Nets.bundle(2);
        x.knot();
        x.knot();
        x.wire(2, 3);
        x.wire(2, 3);
        Nets.layRow(x, 2, 2, 3);
        Nets.layRow(x, 3, 3, 2);
        due("cause() 3 of two rings", x.cause(), 3);
        due("faces() of two rings", x.faces(), 4);
    }

    private static void of() {
        SquareTiler x = Nets.bridge();
        due("of(2, 0)", x.of(2, 0), 1);
        due("of(2, 1)", x.of(2, 1), 2);
        due("of(2, 2)", x.of(2, 2), 0);
        due("of(5, 2)", x.of(5, 2), 2);
        due("of(2, 3)", x.of(2, 3), NO);
        due("of(2, -1)", x.of(2, -1), NO);
        due("of(6, 0)", x.of(6, 0), NO);
        due("of(-1, 0)", x.of(-1, 0), NO);
        due("of(min, max)", x.of(MIN, MAX), NO);
    }

    private static void turn() {
        SquareTiler x = Nets.bridge();
        due("turn(1, 0)", x.turn(1, 0), 2);
        due("turn(1, 1)", x.turn(1, 1), 0);
        due("turn(1, 2)", x.turn(1, 2), 3);
        due("turn(1, 3)", x.turn(1, 3), -1);
        due("turn(1, -1)", x.turn(1, -1), -1);
        due("turn(1, min)", x.turn(1, MIN), -1);
        due("turn(1, max)", x.turn(1, MAX), -1);
        due("turn(4, 0)", x.turn(4, 0), NO);
        due("turn(-1, 0)", x.turn(-1, 0), NO);
        due("turn(4, -1)", x.turn(4, -1), NO);
    }

    private static void faces() {
        SquareTiler x = Nets.bridge();
        int[] want = {0, 1, 1, 2, 3, 1, 0, 3, 3, 2, 2, 0};
        due("faces()", x.faces(), 4);
        for (int dart = 0; dart < want.length; dart++) {
            due("face(" + dart + ")", x.face(dart), want[dart]);
        }
        due("face(12)", x.face(12), NO);
        due("face(-1)", x.face(-1), NO);
        due("face(max)", x.face(MAX), NO);
        x.battery(-1);
        due("faces() without a battery", x.faces(), 4);
        due("face(11) without a battery", x.face(11), 0);
        x.knot();
        due("faces() with a lone knot", x.faces(), 4);
        x.bare(0);
        due("faces() when a turn is not whole", x.faces(), NO);
        due("face(0) when a turn is not whole", x.face(0), NO);
        due("faces() of an empty net", new SquareTiler().faces(), 0);
        due("face(0) of an empty net", new SquareTiler().face(0), NO);
        SquareTiler y = Nets.bridge();
        y.bare(1);
        Nets.layRow(y, 1, 0, 2, 3);
        due("faces() of a net that is not plane", y.faces(), 2);
        due("face(2) before all else", freshRing().face(2), 1);
        due("faces() of 22 wires", Nets.bundle(22).faces(), 22);
        due("face(43) of 22 wires", Nets.bundle(22).face(43), 0);
    }

    private static SquareTiler freshRing() {
        SquareTiler x = Nets.bundle(2);
        x.battery(-1);
        return x;
    }

    private static void trees() {
        SquareTiler x = Nets.bridge();
        due("trees()", x.trees(), 8);
        x.cut(2, true);
        due("trees() of a ring", x.trees(), 4);
        x.cut(0, true);
        due("trees() of a chain", x.trees(), 1);
        x.cut(1, true);
        due("trees() when not ready", x.trees(), NO);
        due("trees() of a bundle", Nets.bundle(22).trees(), 21);
        due("trees() of a chain", Nets.chain(12).trees(), 1);
        SquareTiler y = Nets.bridge();
        y.battery(2);
        due("trees() with the battery across", y.trees(), 8);
    }

    private static void dueAll(String what, long[] got, long... want) {
        for (int i = 0; i < want.length; i++) {
            due(what + "(" + i + ")", got[i], want[i]);
        }
    }

    private static long[] currents(SquareTiler x) {
        long[] all = new long[22];
        for (int w = 0; w < 22; w++) {
            all[w] = x.current(w);
        }
        return all;
    }

    private static long[] heights(SquareTiler x) {
        long[] all = new long[12];
        for (int k = 0; k < 12; k++) {
            all[k] = x.height(k);
        }
        return all;
    }

    private static void theFlow() {
        dueAll("even current", currents(Nets.bridge()), 1, 1, 0, 1, 1, 0, NO);
        dueAll("even height", heights(Nets.bridge()), 2, 1, 1, 0, NO);
        dueAll("uneven current", currents(cutBridge()), 0, 3, -1, 1, 2, 0, NO);
        dueAll("uneven height", heights(cutBridge()), 5, 1, 2, 0, NO);
        SquareTiler x = cutBridge();
        due("current(-1)", x.current(-1), NO);
        due("current(min)", x.current(MIN), NO);
        due("height(-1)", x.height(-1), NO);
        due("height(max)", x.height(MAX), NO);
        SquareTiler chain = Nets.chain(12);
        due("height(0) of a chain", chain.height(0), 11);
        due("height(11) of a chain", chain.height(11), 0);
        due("current(11) of a chain", chain.current(11), 1);
        due("current(0) of the battery", chain.current(0), 0);
    }

    /** The battery goes from the lower pole to the upper one: all is turned upside down. */
    private static void thePoles() {
        SquareTiler x = new SquareTiler();
        x.knot();
        x.knot();
        x.knot();
        x.wire(2, 0);
        x.wire(0, 1);
        x.wire(0, 1);
        x.wire(1, 2);
        x.battery(0);
        Nets.layRow(x, 0, 0, 1, 2);
        Nets.layRow(x, 1, 1, 2, 3);
        Nets.layRow(x, 2, 0, 3);
        due("poles: cause()", x.cause(), 5);
        x.bare(1);
        Nets.layRow(x, 1, 2, 1, 3);
        due("poles: cause()", x.cause(), 0);
        dueAll("poles: height", heights(x), 0, 1, 3, NO);
        dueAll("poles: current", currents(x), 0, -1, -1, -2, NO);
        due("poles: wide", x.rectangle(0), 2);
        due("poles: high", x.rectangle(1), 3);
    }

    private static void place() {
        SquareTiler x = Nets.bridge();
        int[] even = {0, 1, 2, 1};
        for (int f = 0; f < 4; f++) {
            due("even place(" + f + ")", x.place(f), even[f]);
        }
        due("place(4)", x.place(4), NO);
        due("place(-1)", x.place(-1), NO);
        due("place(max)", x.place(MAX), NO);
        placeAgainstTheWires();
        SquareTiler y = cutBridge();
        int[] uneven = {0, 0, 3, 1};
        for (int f = 0; f < 4; f++) {
            due("uneven place(" + f + ")", y.place(f), uneven[f]);
        }
    }

    /** Three wires go upwards from the lower pole: each has the current -1, and its place falls to its left. */
    private static void placeAgainstTheWires() {
        SquareTiler x = new SquareTiler();
        x.knot();
        x.knot();
        for (int w = 0; w < 4; w++) {
            x.wire(w == 3 ? 0 : 1, w == 3 ? 1 : 0);
        }
        x.battery(3);
        Nets.layRow(x, 0, 0, 1, 2, 3);
        Nets.layRow(x, 1, 3, 2, 1, 0);
        for (int w = 0; w < 3; w++) {
            due("upwards: current(" + w + ")", x.current(w), -1);
            due("upwards: square(" + w + ", 0)", x.square(w, 0), w);
            due("upwards: right place", x.place(x.face(2 * w)), w + 1);
            due("upwards: left place", x.place(x.face(2 * w + 1)), w);
        }
    }

    private static void dueRectangle(SquareTiler x, int... want) {
        for (int what = 0; what < 5; what++) {
            due("rectangle(" + what + ")", x.rectangle(what), want[what]);
        }
    }

    private static void rectangle() {
        dueRectangle(Nets.bridge(), 2, 2, 4, 0, 0);
        dueRectangle(cutBridge(), 3, 5, 4, 0, 0);
        dueRectangle(Nets.bundle(22), 21, 1, 21, 0, 0);
        dueRectangle(Nets.chain(12), 1, 11, 11, 0, 0);
        dueRectangle(Nets.bundle(2), 1, 1, 1, 1, 1);
        dueRectangle(Nets.bundle(3), 2, 1, 2, 0, 1);
        SquareTiler x = Nets.bridge();
        due("rectangle(5)", x.rectangle(5), NO);
        due("rectangle(-1)", x.rectangle(-1), NO);
        due("rectangle(min)", x.rectangle(MIN), NO);
    }

    private static void perfectOrNot() {
        SquareTiler x = new SquareTiler();
        Nets.tellPerfect(x);
        x.read(33, 32);
        dueRectangle(x, 33, 32, 9, 1, 1);
        // A square beside all of it: still perfect, but the nine make an inner rectangle.
        x.tell(33, 0, 32);
        x.read(65, 32);
        dueRectangle(x, 65, 32, 10, 1, 0);
        for (int i = 0; i < 9; i++) {
            due("within() of the nine", x.within(i), i);
        }
        due("within(9) of the nine", x.within(9), -1);
        idleWire();
        theLargestPerfect();
    }

    /** The simple perfect square of 21 squares, 112 by 112: no net may have more wires than this one. */
    private static void theLargestPerfect() {
        int[][] rows = {{0, 62, 50}, {50, 77, 35}, {85, 85, 27}, {85, 77, 8}, {93, 66, 19}, {50, 62, 15},
            {65, 60, 17}, {82, 66, 11}, {82, 60, 6}, {88, 42, 24}, {0, 33, 29}, {29, 37, 25}, {54, 53, 9}, {63, 60, 2},
            {63, 53, 7}, {70, 42, 18}, {54, 37, 16}, {70, 0, 42}, {29, 33, 4}, {33, 0, 37}, {0, 0, 33}};
        SquareTiler x = new SquareTiler();
        for (int[] s : rows) {
            x.tell(s[0], s[1], s[2]);
        }
        due("fit(112, 112)", x.fit(112, 112), 0);
        due("read(112, 112)", x.read(112, 112), 11);
        dueRectangle(x, 112, 112, 21, 1, 1);
        for (int w = 0; w < rows.length; w++) {
            for (int what = 0; what < 3; what++) {
                due("square(" + w + ", " + what + ") of 21", x.square(w, what), rows[w][what]);
            }
        }
        due("about() of 21 would have 13", x.about(), NO);
        for (int i = 0; i < rows.length; i++) {
            x.alter(i, 0, rows[i][1]);
            x.alter(i, 1, rows[i][0]);
        }
        due("fit(112, 112) turned over", x.fit(112, 112), 0);
        due("read(112, 112) turned over would have 13", x.read(112, 112), NO);
        due("read: unchanged", x.count(0), 11);
    }

    /** A wire at a loose end has the current 0: it is no square, and nothing is perfect with it. */
    private static void idleWire() {
        SquareTiler x = Nets.bundle(2);
        x.knot();
        x.wire(2, 1);
        x.lay(2, 2);
        x.lay(1, 2);
        dueRectangle(x, 1, 1, 1, 0, 1);
        due("current(2) of a loose end", x.current(2), 0);
        due("height(2) of a loose end", x.height(2), 0);
        due("square(2, 2) of a loose end", x.square(2, 2), NO);
        SquareTiler y = Nets.bundle(3);
        y.cut(1, true);
        dueRectangle(y, 1, 1, 1, 1, 1);
        SquareTiler z = Nets.bridge();
        due("perfect with an idle wire", z.rectangle(3), 0);
        z.cut(0, true);
        z.cut(2, true);
        z.cut(4, true);
        due("not ready", z.rectangle(3), NO);
        z.cut(2, false);
        dueRectangle(z, 1, 3, 3, 0, 0);
        changedSinceAsked();
    }

    /** An answer is of the net as it stands, not as it was when last asked. */
    private static void changedSinceAsked() {
        SquareTiler x = Nets.bundle(2);
        x.knot();
        x.wire(2, 1);
        x.lay(2, 2);
        x.lay(1, 2);
        due("perfect with a loose end", x.rectangle(3), 0);
        x.clear();
        Nets.tellPerfect(x);
        x.read(33, 32);
        due("perfect since", x.rectangle(3), 1);
        SquareTiler y = Nets.bundle(4);
        due("within(0) of three", y.within(0), 0);
        due("simple: three", y.rectangle(4), 0);
        y.cut(1, true);
        due("within(0) of two", y.within(0), -1);
        due("simple: two", y.rectangle(4), 1);
    }

    private static void square() {
        SquareTiler x = cutBridge();
        int[][] want = {{NO, NO, NO}, {0, 2, 3}, {0, 1, 1}, {0, 0, 1}, {1, 0, 2}, {NO, NO, NO}};
        for (int w = 0; w < 6; w++) {
            for (int what = 0; what < 3; what++) {
                due("square(" + w + ", " + what + ")", x.square(w, what), want[w][what]);
            }
        }
        due("square(1, 3)", x.square(1, 3), NO);
        due("square(1, -1)", x.square(1, -1), NO);
        due("square(6, 0)", x.square(6, 0), NO);
        due("square(-1, 0)", x.square(-1, 0), NO);
        due("square(2, 2) without current", Nets.bridge().square(2, 2), NO);
    }

    private static void within() {
        SquareTiler x = cutBridge();
        due("within(0)", x.within(0), 2);
        due("within(1)", x.within(1), 3);
        due("within(2)", x.within(2), -1);
        due("within(-1)", x.within(-1), -1);
        due("within(min)", x.within(MIN), -1);
        due("within(max)", x.within(MAX), -1);
        due("within(0) when it is simple", Nets.bundle(3).within(0), -1);
    }

    private static void dueWithin(SquareTiler x, int a, int b) {
        due("within(0)", x.within(0), a);
        due("within(1)", x.within(1), b);
        due("within(2)", x.within(2), -1);
    }

    /** Of sets of the same size the lesser LEFT counts first, then the lesser LOW, then the width. */
    private static void withinTies() {
        dueWithin(Nets.bridge(), 0, 3);
        SquareTiler x = new SquareTiler();
        // Three of side 1 in a pile, and to the right of them two side by side, but told first.
        x.tell(4, 0, 1);
        x.tell(5, 0, 1);
        x.tell(4, 1, 2);
        x.tell(0, 0, 3);
        x.tell(3, 0, 1);
        x.tell(3, 1, 1);
        x.tell(3, 2, 1);
        due("read(6, 3)", x.read(6, 3), 4);
        dueWithin(x, 4, 5);
        x.hush();
        x.tell(0, 1, 1);
        x.tell(1, 1, 1);
        x.tell(0, 0, 1);
        x.tell(1, 0, 1);
        x.read(2, 2);
        dueWithin(x, 0, 2);
        x.hush();
        // Low pair further right, high pair further left.
        x.tell(0, 0, 2);
        x.tell(0, 2, 1);
        x.tell(1, 2, 1);
        x.tell(2, 0, 1);
        x.tell(3, 0, 1);
        x.tell(2, 1, 2);
        x.read(4, 3);
        dueWithin(x, 1, 2);
        withinFarTies();
    }

    private static SquareTiler readOf(int wide, int high, int[][] rows) {
        SquareTiler x = new SquareTiler();
        for (int[] s : rows) {
            x.tell(s[0], s[1], s[2]);
        }
        due("read(" + wide + ", " + high + ") is ready", x.read(wide, high) == NO ? 1 : x.cause(), 0);
        return x;
    }

    private static void withinFarTies() {
        // The lesser LEFT counts although it stands far above the other pair.
        dueWithin(readOf(3, 6, new int[][] {{2, 0, 1}, {2, 1, 1}, {0, 0, 2}, {0, 2, 3}, {0, 5, 1}, {1, 5, 1},
            {2, 5, 1}}), 4, 5);
        // The lesser LOW counts although it is told last and stands far to the right.
        dueWithin(readOf(4, 3, new int[][] {{3, 1, 1}, {3, 2, 1}, {3, 0, 1}, {0, 0, 3}}), 0, 2);
        // The less wide one counts, be it told first or last.
        dueWithin(readOf(2, 2, new int[][] {{0, 0, 1}, {1, 0, 1}, {0, 1, 1}, {1, 1, 1}}), 0, 2);
        dueWithin(readOf(2, 2, new int[][] {{0, 0, 1}, {0, 1, 1}, {1, 0, 1}, {1, 1, 1}}), 0, 1);
        // Fewer squares count before all else: three at the left, two at the right.
        dueWithin(readOf(8, 6, new int[][] {{0, 0, 4}, {0, 4, 2}, {2, 4, 2}, {4, 2, 4}, {4, 0, 2}, {6, 0, 2}}), 1, 2);
    }

    private static void at() {
        SquareTiler x = cutBridge();
        int[][] want = {{3, 4, 4}, {2, 4, 4}, {1, 1, 1}, {1, 1, 1}, {1, 1, 1}};
        for (int y = 0; y < 5; y++) {
            for (int u = 0; u < 3; u++) {
                due("at(" + u + ", " + y + ")", x.at(u, y), want[y][u]);
            }
        }
        due("at(-1, 0)", x.at(-1, 0), -1);
        due("at(0, -1)", x.at(0, -1), -1);
        due("at(3, 0)", x.at(3, 0), -1);
        due("at(0, 5)", x.at(0, 5), -1);
        due("at(max, max)", x.at(MAX, MAX), -1);
        due("at(min, 0)", x.at(MIN, 0), -1);
        due("at(0, min)", x.at(0, MIN), -1);
    }

    private static void refusedWhenNotReady() {
        SquareTiler x = Nets.bridge();
        x.battery(-1);
        due("trees() not ready", x.trees(), NO);
        due("current(0) not ready", x.current(0), NO);
        due("height(0) not ready", x.height(0), NO);
        due("place(0) not ready", x.place(0), NO);
        due("rectangle(0) not ready", x.rectangle(0), NO);
        due("rectangle(4) not ready", x.rectangle(4), NO);
        due("square(0, 0) not ready", x.square(0, 0), NO);
        due("within(0) not ready", x.within(0), NO);
        due("within(-1) not ready", x.within(-1), NO);
        due("at(0, 0) not ready", x.at(0, 0), NO);
        due("at(-1, 0) not ready", x.at(-1, 0), NO);
    }

    private static void theFullNet() {
        SquareTiler x = Nets.full();
        due("full: cause()", x.cause(), 0);
        due("full: faces()", x.faces(), 12);
        due("full: trees()", x.trees(), 1024);
        dueRectangle(x, 2, 12, 21, 0, 0);
        for (int w = 1; w < 22; w++) {
            due("full: left " + w, x.square(w, 0), w < 21 ? 1 - w % 2 : 0);
            due("full: low " + w, x.square(w, 1), w < 21 ? 11 - (w - 1) / 2 : 0);
            due("full: side " + w, x.square(w, 2), w < 21 ? 1 : 2);
        }
        dueWithin(x, 17, 19);
        due("full: at(1, 1)", x.at(1, 1), 21);
        due("full: at(1, 11)", x.at(1, 11), 2);
        due("full: grant()", x.grant(), 22);
        due("full: judge()", x.judge(), 0);
        x.claim(21, 1);
        due("full: judge() of the last wire", x.judge(), 1021);
        x.raise(10, 1);
        due("full: judge() above it", x.judge(), 1019);
        due("full: keep()", x.keep(), 22);
        due("full: mirror()", x.mirror(), 12);
        due("full: mirrored left", x.square(1, 0), 1);
        due("full: back()", x.back(), 22);
        due("full: left again", x.square(1, 0), 0);
        due("full: about()", x.about(), 12);
        dueRectangle(x, 12, 2, 21, 0, 0);
        // TREES of the two nets are as WIDE and HIGH: 1024 to these is 2 to 12.
        due("full: trees() turned about", x.trees(), 6144);
        due("full: claims are 0", x.claim(21, 0), 0);
    }

    private static void count() {
        SquareTiler x = Nets.bridge();
        x.tell(0, 0, 1);
        due("count(0)", x.count(0), 4);
        due("count(1)", x.count(1), 6);
        due("count(2)", x.count(2), 1);
        due("count(3)", x.count(3), 5);
        due("count(4)", x.count(4), NO);
        due("count(-1)", x.count(-1), NO);
        due("count(max)", x.count(MAX), NO);
    }
}
