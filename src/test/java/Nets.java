/** Nets that several tests draw, with what is told of them worked out by hand. */
final class Nets {
    /** Whether objects are made that have had another net before: to every call they are as a new one. */
    static boolean areUsed = false;

    private Nets() {
    }

    static SquareTiler blank() {
        SquareTiler x = new SquareTiler();
        if (areUsed) {
            useAndEmpty(x);
        }
        return x;
    }

    /** Twelve knots and 21 wires, one of them idle, with inner sets, claims and cuts, all of which are gone again. */
    private static void useAndEmpty(SquareTiler x) {
        x.tell(0, 0, 2);
        for (int i = 0; i < 18; i++) {
            x.tell(i % 2, 2 + i / 2, 1);
        }
        x.read(2, 11);
        withLooseEnd(x, 4);
        x.raise(0, 9);
        x.raise(11, 9);
        x.claim(0, 9);
        x.claim(20, 9);
        x.rectangle(4);
        x.cut(3, true);
        x.rectangle(3);
        x.hush();
        x.clear();
    }

    /**
     * A bridge: knot 0 on top, 1 left, 2 right, 3 below; wire 2 goes across from 1 to 2; the battery, wire 5,
     * goes from 0 to 3 far to the left. Its rings of darts are 0 6 11, 1 2 5, 3 10 9, 4 8 7.
     */
    static SquareTiler bridge() {
        SquareTiler x = bridgeWithoutTurns();
        layBridge(x);
        return x;
    }

    static SquareTiler bridgeWithoutTurns() {
        SquareTiler x = blank();
        drawBridge(x);
        return x;
    }

    private static void drawBridge(SquareTiler x) {
        addKnots(x, 4);
        x.wire(0, 1);
        x.wire(0, 2);
        x.wire(1, 2);
        x.wire(1, 3);
        x.wire(2, 3);
        x.wire(0, 3);
        x.battery(5);
    }

    private static void layBridge(SquareTiler x) {
        layRow(x, 0, 5, 0, 1);
        layRow(x, 1, 2, 0, 3);
        layRow(x, 2, 1, 2, 4);
        layRow(x, 3, 4, 3, 5);
    }

    /** A pole above another one, wires side by side between them, the battery being the last of them. */
    static SquareTiler bundle(int wires) {
        SquareTiler x = lone(2);
        for (int w = 0; w < wires; w++) {
            x.wire(0, 1);
            x.lay(0, w);
        }
        for (int w = wires - 1; w >= 0; w--) {
            x.lay(1, w);
        }
        x.battery(wires - 1);
        return x;
    }

    /** Knots alone, each with an empty turn. */
    static SquareTiler lone(int knots) {
        SquareTiler x = blank();
        addKnots(x, knots);
        return x;
    }

    private static void addKnots(SquareTiler x, int knots) {
        for (int k = 0; k < knots; k++) {
            x.knot();
        }
    }

    /** The bridge with claims 10 and on of wires, 20 and on of knots, two told squares, a bundle of three kept. */
    static SquareTiler whole() {
        SquareTiler x = bundle(3);
        x.cut(0, true);
        x.claim(0, 7);
        x.raise(1, 8);
        x.keep();
        x.clear();
        drawBridge(x);
        layBridge(x);
        claimFrom(x, 10, 20);
        x.tell(1, 2, 3);
        x.tell(4, 5, 6);
        return x;
    }

    /** The same with wire 0 cut: 3 on top, under it two of side 1 at the left, one of side 2. */
    static SquareTiler rich() {
        SquareTiler x = whole();
        x.cut(0, true);
        return x;
    }

    /** The wires' claims rise by 1 from the first number on, the knots' from the second one. */
    static void claimFrom(SquareTiler x, int ofWires, int ofKnots) {
        int wires = x.count(1);
        for (int w = 0; w < wires; w++) {
            x.claim(w, ofWires + w);
        }
        int knots = x.count(0);
        for (int k = 0; k < knots; k++) {
            x.raise(k, ofKnots + k);
        }
    }

    /** Four wires between two knots that go round both of them the same way: two faces, so it is not plane. */
    static SquareTiler twisted() {
        SquareTiler x = bundle(4);
        x.bare(1);
        layRow(x, 1, 0, 1, 2, 3);
        return x;
    }

    /** Two knots more, and two wires between them, apart from all the rest: a ring with two faces. */
    static SquareTiler withRing(SquareTiler x) {
        int a = x.knot();
        int b = x.knot();
        int v = x.wire(a, b);
        int w = x.wire(a, b);
        layRow(x, a, v, w);
        layRow(x, b, w, v);
        return x;
    }

    /** A knot more, hanging by one wire from a knot. */
    static SquareTiler withLooseEnd(SquareTiler x, int k) {
        int end = x.knot();
        int w = x.wire(k, end);
        x.lay(k, w);
        x.lay(end, w);
        return x;
    }

    /**
     * Twelve knots in a chain, ten times two wires between them and once one, the battery wire 0: all rows are full.
     * Wires 2 k - 1 and 2 k go from knot k - 1 to knot k.
     */
    static SquareTiler full() {
        SquareTiler x = lone(12);
        x.wire(0, 11);
        for (int w = 1; w < 22; w++) {
            x.wire((w - 1) / 2, (w - 1) / 2 + 1);
        }
        x.battery(0);
        layRow(x, 0, 0, 1, 2);
        for (int k = 1; k < 10; k++) {
            layRow(x, k, 2 * k + 1, 2 * k + 2, 2 * k, 2 * k - 1);
        }
        layRow(x, 10, 21, 20, 19);
        layRow(x, 11, 21, 0);
        return x;
    }

    /** The full net with claims, all 21 squares told, and itself kept with other claims. */
    static SquareTiler brimful() {
        SquareTiler x = full();
        claimFrom(x, 100, 200);
        x.keep();
        claimFrom(x, 300, 400);
        for (int i = 0; i < 21; i++) {
            x.tell(i, 21 - i, 1 + i);
        }
        return x;
    }

    /**
     * Knots 0 to 10 in a row from above, wire i from knot i to the next one, wire 10 + i from knot i to knot 11, which
     * stands to the right of them; the battery, wire 21, goes from knot 0 to knot 10 at the left. The sides are
     * Fibonacci's numbers, those above the middle the same as those below it, and 0 in the middle (wire 15).
     */
    static SquareTiler fan() {
        SquareTiler x = lone(12);
        for (int i = 0; i < 10; i++) {
            x.wire(i, i + 1);
        }
        for (int i = 0; i < 11; i++) {
            x.wire(i, 11);
        }
        x.wire(0, 10);
        x.battery(21);
        layRow(x, 0, 21, 0, 10);
        for (int i = 1; i < 10; i++) {
            layRow(x, i, i - 1, i, 10 + i);
        }
        layRow(x, 10, 9, 21, 20);
        for (int i = 0; i < 11; i++) {
            x.lay(11, 10 + i);
        }
        return x;
    }

    /** The battery is wire 0, and a chain of wires goes from its FIRST END down to its SECOND END. */
    static SquareTiler chain(int knots) {
        SquareTiler x = lone(knots);
        x.wire(0, knots - 1);
        x.battery(0);
        x.lay(0, 0);
        for (int k = 1; k < knots; k++) {
            int w = x.wire(k - 1, k);
            x.lay(k - 1, w);
            x.lay(k, w);
        }
        x.lay(knots - 1, 0);
        return x;
    }

    static void layRow(SquareTiler x, int k, int... wires) {
        for (int w : wires) {
            x.lay(k, w);
        }
    }

    /** Nine squares, all unlike and without an inner set, that make 33 by 32. */
    static void tellPerfect(SquareTiler x) {
        x.tell(0, 14, 18);
        x.tell(18, 17, 15);
        x.tell(18, 10, 7);
        x.tell(25, 9, 8);
        x.tell(0, 0, 14);
        x.tell(14, 10, 4);
        x.tell(14, 0, 10);
        x.tell(24, 9, 1);
        x.tell(24, 0, 9);
    }
}
