/** Nets that several tests draw, with what is told of them worked out by hand. */
final class Nets {
    private Nets() {
    }

    /**
     * A bridge: knot 0 on top, 1 left, 2 right, 3 below; wire 2 goes across from 1 to 2; the battery, wire 5,
     * goes from 0 to 3 far to the left. Its rings of darts are 0 6 11, 1 2 5, 3 10 9, 4 8 7.
     */
    static SquareTiler bridge() {
        SquareTiler x = bridgeWithoutTurns();
        layRow(x, 0, 5, 0, 1);
        layRow(x, 1, 2, 0, 3);
        layRow(x, 2, 1, 2, 4);
        layRow(x, 3, 4, 3, 5);
        return x;
    }

    static SquareTiler bridgeWithoutTurns() {
        SquareTiler x = new SquareTiler();
        for (int k = 0; k < 4; k++) {
            x.knot();
        }
        x.wire(0, 1);
        x.wire(0, 2);
        x.wire(1, 2);
        x.wire(1, 3);
        x.wire(2, 3);
        x.wire(0, 3);
        x.battery(5);
        return x;
    }

    /** A pole above another one, wires side by side between them, the battery being the last of them. */
    static SquareTiler bundle(int wires) {
        SquareTiler x = new SquareTiler();
        x.knot();
        x.knot();
        for (int w = 0; w < wires; w++) {
            x.wire(0, 1);
            x.lay(0, w);
        }
        for (int w = wires - 1; w >= 0; w--) {
            x.lay(1, w);
        }
        x.battery(wires - 1);
        return x;
    }

    /** The battery is wire 0, and a chain of wires goes from its FIRST END down to its SECOND END. */
    static SquareTiler chain(int knots) {
        SquareTiler x = new SquareTiler();
        for (int k = 0; k < knots; k++) {
            x.knot();
        }
        x.wire(0, knots - 1);
        x.battery(0);
        x.lay(0, 0);
        for (int k = 1; k < knots; k++) {
            int w = x.wire(k - 1, k);
            x.lay(k - 1, w);
            x.lay(k, w);
        }
        x.lay(knots - 1, 0);
        return x;
    }

    static void layRow(SquareTiler x, int k, int... wires) {
        for (int w : wires) {
            x.lay(k, w);
        }
    }

    /** Nine squares, all unlike and without an inner set, that make 33 by 32. */
    static void tellPerfect(SquareTiler x) {
        x.tell(0, 14, 18);
        x.tell(18, 17, 15);
        x.tell(18, 10, 7);
        x.tell(25, 9, 8);
        x.tell(0, 0, 14);
        x.tell(14, 10, 4);
        x.tell(14, 0, 10);
        x.tell(24, 9, 1);
        x.tell(24, 0, 9);
    }
}
