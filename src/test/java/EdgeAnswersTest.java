/**
 * The boundary cases of promises 13 to 25 and 36, each sentence by itself: what is told at the last input that there
 * is, what is refused behind it, and that a question changes nothing.
 */
public final class EdgeAnswersTest {
    private static final int MIN = Edge.MIN;
    private static final int MAX = Edge.MAX;
    private static final int[] FAN_HEIGHTS = {110, 76, 63, 58, 56, 55, 54, 52, 47, 34, 0, 55};
    private static final int[] FAN_CURRENTS = {34, 13, 5, 2, 1, 1, 2, 5, 13, 34, 55, 21, 8, 3, 1, 0, -1, -3, -8, -21,
        -55, 0};

    public static void main(String[] args) {
        causeAlone();
        causeFirst();
        causeOfTurns();
        of();
        turn();
        theRings();
        behindTheLastTheFirst();
        faces();
        face();
        facesRefused();
        trees();
        current();
        height();
        place();
        rectangle();
        perfect();
        simple();
        square();
        within();
        innerTouches();
        leastInner();
        at();
        notReady();
        count();
        the512thCall();
        Due.finish("EdgeAnswersTest");
    }

    /** Wire 0 is cut, and the wires with knot 1 are too: it hangs by no plain one. */
    private static SquareTiler fourth() {
        SquareTiler x = Nets.rich();
        x.cut(2, true);
        x.cut(3, true);
        return x;
    }

    private static SquareTiler fifth() {
        SquareTiler x = Nets.rich();
        x.bare(1);
        Nets.layRow(x, 1, 0, 2, 3);
        return x;
    }

    /** Nets with claims, told squares and one that is kept: the i-th has THE CAUSE i + 1. */
    private static Edge.Made[] causes() {
        return new Edge.Made[] {
            Edge.then(Nets::rich, x -> x.battery(-1)),
            Edge.then(Nets::rich, x -> x.bare(3)),
            Edge.then(Nets::rich, x -> x.knot()),
            EdgeAnswersTest::fourth,
            EdgeAnswersTest::fifth};
    }

    /** Promise 13: THE CAUSE, 0 if the net is READY. */
    private static void causeAlone() {
        Edge.tells("cause() 0", Nets::rich, x -> x.cause(), 0);
        Edge.tells("cause() 0 of the least net", () -> Nets.bundle(2), x -> x.cause(), 0);
        Edge.tells("cause() 0 of the fullest net", Nets::brimful, x -> x.cause(), 0);
        Edge.Made[] made = causes();
        for (int c = 1; c <= 5; c++) {
            Edge.tells("cause() " + c, made[c - 1], x -> x.cause(), c);
        }
        Edge.tells("cause() 4, a battery is not plain", () -> Nets.bundle(1), x -> x.cause(), 4);
        Edge.tells("cause() 4, a cut wire is not plain", Edge.then(() -> Nets.bundle(2), x -> x.cut(0, true)),
                x -> x.cause(), 4);
        Edge.tells("cause() 3, a lone last knot", Edge.then(() -> Nets.bundle(2), x -> x.knot()), x -> x.cause(), 3);
        Edge.tells("cause() 3, a lone first knot", EdgeAnswersTest::loneFirst, x -> x.cause(), 3);
        Edge.tells("cause() 0 of a chain of twelve", () -> Nets.chain(12), x -> x.cause(), 0);
        Edge.tells("cause() 0 of a chain drawn from below", EdgeAnswersTest::chainFromBelow, x -> x.cause(), 0);
    }

    private static SquareTiler loneFirst() {
        SquareTiler x = Nets.lone(3);
        x.wire(1, 2);
        x.wire(1, 2);
        x.battery(1);
        Nets.layRow(x, 1, 0, 1);
        Nets.layRow(x, 2, 1, 0);
        return x;
    }

    /** Wire i hangs knot 10 - i on knot 11 - i, so that the first wires are the farthest from knot 0. */
    private static SquareTiler chainFromBelow() {
        SquareTiler x = Nets.lone(12);
        for (int i = 0; i < 11; i++) {
            x.wire(10 - i, 11 - i);
            x.lay(10 - i, i);
            x.lay(11 - i, i);
        }
        x.battery(x.wire(0, 11));
        x.lay(0, 11);
        x.lay(11, 11);
        return x;
    }

    /** The first of these: each cause beside each later one that can be there too. */
    private static void causeFirst() {
        Edge.Made[] made = causes();
        for (int c = 2; c <= 5; c++) {
            Edge.tells("cause() 1 before " + c, Edge.then(made[c - 1], x -> x.battery(-1)), x -> x.cause(), 1);
        }
        for (int c = 3; c <= 5; c++) {
            Edge.tells("cause() 2 before " + c, Edge.then(made[c - 1], x -> x.bare(3)), x -> x.cause(), 2);
        }
        Edge.tells("cause() 3 before 5", () -> Nets.withRing(Nets.bundle(3)), x -> x.cause(), 3);
        // Here knots and faces are two more than wires all the same.
        Edge.tells("cause() 3 without 5", () -> Nets.withRing(Nets.twisted()), x -> x.cause(), 3);
        Edge.tells("cause() 3 before 4", Edge.then(EdgeAnswersTest::fourth, x -> x.knot()), x -> x.cause(), 3);
        Edge.tells("cause() 4 before 5", Edge.then(Edge.then(EdgeAnswersTest::fifth, x -> x.cut(2, true)),
                x -> x.cut(3, true)), x -> x.cause(), 4);
        Edge.tells("cause() 5 of a twisted bundle", Nets::twisted, x -> x.cause(), 5);
    }

    /** 2: the TURN of a knot has not each wire that ends there just once. */
    private static void causeOfTurns() {
        for (int k = 0; k < 4; k++) {
            int bared = k;
            Edge.tells("cause() 2, empty turn " + k, Edge.then(Nets::rich, x -> x.bare(bared)), x -> x.cause(), 2);
        }
        Edge.Made two = Edge.then(Edge.then(Edge.then(Nets::rich, x -> x.bare(3)), x -> x.lay(3, 4)),
                x -> x.lay(3, 3));
        Edge.tells("cause() 2, the last one lacks", two, x -> x.cause(), 2);
        Edge.tells("cause() 0, it is laid", Edge.then(two, x -> x.lay(3, 5)), x -> x.cause(), 0);
        Edge.Made longer = Edge.then(Nets::rich, x -> x.wire(0, 3));
        Edge.tells("cause() 2, in no turn", longer, x -> x.cause(), 2);
        Edge.tells("cause() 2, in one turn", Edge.then(longer, x -> x.lay(0, 6)), x -> x.cause(), 2);
        Edge.tells("cause() 2, in the other turn", Edge.then(longer, x -> x.lay(3, 6)), x -> x.cause(), 2);
        Edge.tells("cause() 2 of the last of twelve", Edge.then(Nets::brimful, x -> x.bare(11)), x -> x.cause(), 2);
    }

    /** Promise 14: 0 the FIRST END, 1 the SECOND END, 2 PLAIN (0), CUT (1), BATTERY (2). NO: no such wire or what. */
    private static void of() {
        int[][] want = {{0, 1, 1}, {0, 2, 0}, {1, 2, 0}, {1, 3, 0}, {2, 3, 0}, {0, 3, 2}};
        for (int w = 0; w < 6; w++) {
            for (int what = 0; what < 3; what++) {
                int wire = w;
                int part = what;
                Edge.tells("of(" + w + ", " + what + ")", Nets::rich, x -> x.of(wire, part), want[w][what]);
            }
        }
        for (int bad : new int[] {-1, 3, MIN, MAX}) {
            Edge.refused("of(0, " + bad + "), no such what", Nets::rich, x -> x.of(0, bad));
            Edge.refused("of(5, " + bad + "), no such what", Nets::rich, x -> x.of(5, bad));
        }
        for (int bad : new int[] {-1, 6, 22, MIN, MAX}) {
            for (int what = 0; what < 3; what++) {
                int part = what;
                Edge.refused("of(" + bad + ", " + what + "), no such wire", Nets::rich, x -> x.of(bad, part));
            }
        }
        Edge.tells("of(21, 0) of 22 wires", Nets::brimful, x -> x.of(21, 0), 10);
        Edge.tells("of(21, 1) of 22 wires", Nets::brimful, x -> x.of(21, 1), 11);
        Edge.tells("of(21, 2) of 22 wires", Nets::brimful, x -> x.of(21, 2), 0);
        Edge.refused("of(22, 0) of 22 wires", Nets::brimful, x -> x.of(22, 0));
        Edge.refused("of(22, 2) of 22 wires", Nets::brimful, x -> x.of(22, 2));
    }

    /** Promise 15: the i-th wire, from 0 on, in the TURN of a knot; -1 when there is none such. NO: no such knot. */
    private static void turn() {
        Edge.tells("turn(3, 0), the first", Nets::rich, x -> x.turn(3, 0), 4);
        Edge.tells("turn(3, 2), the last", Nets::rich, x -> x.turn(3, 2), 5);
        for (int i : new int[] {-1, 3, 22, MIN, MAX}) {
            Edge.tells("turn(0, " + i + "), none such", Nets::rich, x -> x.turn(0, i), -1);
            Edge.tells("turn(3, " + i + "), none such", Nets::rich, x -> x.turn(3, i), -1);
        }
        Edge.tells("turn(0, 0) of an empty turn", () -> Nets.lone(1), x -> x.turn(0, 0), -1);
        Edge.tells("turn(0, 0) of a bared turn", Edge.then(Nets::rich, x -> x.bare(0)), x -> x.turn(0, 0), -1);
        Edge.tells("turn(1, 21) of 22", () -> Nets.bundle(22), x -> x.turn(1, 21), 0);
        Edge.tells("turn(0, 21) of 22", () -> Nets.bundle(22), x -> x.turn(0, 21), 21);
        Edge.tells("turn(0, 22) of 22", () -> Nets.bundle(22), x -> x.turn(0, 22), -1);
        Edge.tells("turn(1, -1) of 22", () -> Nets.bundle(22), x -> x.turn(1, -1), -1);
        Edge.tells("turn(11, 1) of twelve", Nets::brimful, x -> x.turn(11, 1), 0);
        for (int k : new int[] {-1, 4, 12, MIN, MAX}) {
            for (int i : new int[] {-1, 0, 3}) {
                Edge.refused("turn(" + k + ", " + i + "), no such knot", Nets::rich, x -> x.turn(k, i));
            }
        }
        Edge.refused("turn(12, 0) of twelve", Nets::brimful, x -> x.turn(12, 0));
    }

    private static void dueFaces(String label, Edge.Made made, int... want) {
        for (int dart = 0; dart < want.length; dart++) {
            int asked = dart;
            Edge.tells(label + ": face(" + dart + ")", made, x -> x.face(asked), want[dart]);
        }
        Edge.refused(label + ": no more darts", made, x -> x.face(want.length));
    }

    /** Rings of darts, numbered from 0 by their least ones; each lies to the right of its darts. */
    private static void theRings() {
        dueFaces("one wire, one ring", () -> Nets.bundle(1), 0, 0);
        dueFaces("two wires, two rings", () -> Nets.bundle(2), 0, 1, 1, 0);
        dueFaces("three wires", () -> Nets.bundle(3), 0, 1, 1, 2, 2, 0);
        dueFaces("a chain", () -> Nets.chain(4), 0, 1, 1, 0, 1, 0, 1, 0);
        dueFaces("a bridge", Nets::rich, 0, 1, 1, 2, 3, 1, 0, 3, 3, 2, 2, 0);
        dueFaces("a bridge mirrored", Edge.then(Nets::rich, x -> x.mirror()), 0, 1, 2, 0, 0, 3, 3, 1, 2, 3, 1, 2);
        dueFaces("twisted", Nets::twisted, 0, 1, 1, 0, 0, 1, 1, 0);
        dueFaces("two rings apart", () -> Nets.withRing(Nets.bundle(2)), 0, 1, 1, 0, 2, 3, 3, 2);
    }

    /** A TURN begins anywhere: behind the last one comes the first. */
    private static void behindTheLastTheFirst() {
        int[][] turns = {{5, 0, 1}, {2, 0, 3}, {1, 2, 4}, {4, 3, 5}};
        for (int k = 0; k < 4; k++) {
            for (int start = 1; start < 3; start++) {
                int knot = k;
                int[] turn = {turns[k][start], turns[k][(start + 1) % 3], turns[k][(start + 2) % 3]};
                Edge.Made begun = Edge.then(Edge.then(Nets::rich, x -> x.bare(knot)), x -> {
                    Nets.layRow(x, knot, turn);
                    return 0;
                });
                dueFaces("turn " + k + " from " + start + " on", begun, 0, 1, 1, 2, 3, 1, 0, 3, 3, 2, 2, 0);
                Edge.tells("turn " + k + " from " + start + " on: cause()", begun, x -> x.cause(), 0);
                Edge.tells("turn " + k + " from " + start + " on: place(2)", begun, x -> x.place(2), 3);
            }
        }
    }

    /** Promise 16: how many FACES there are. */
    private static void faces() {
        Edge.tells("faces() of an empty net", Nets::blank, x -> x.faces(), 0);
        Edge.tells("faces() of knots without wires", () -> Nets.lone(12), x -> x.faces(), 0);
        Edge.tells("faces() of one wire", () -> Nets.bundle(1), x -> x.faces(), 1);
        Edge.tells("faces() of two wires", () -> Nets.bundle(2), x -> x.faces(), 2);
        Edge.tells("faces() of 22 wires", () -> Nets.bundle(22), x -> x.faces(), 22);
        Edge.tells("faces() of the fullest net", Nets::brimful, x -> x.faces(), 12);
        Edge.tells("faces() with a loose end", () -> Nets.withLooseEnd(Nets.rich(), 3), x -> x.faces(), 4);
        Edge.tells("faces() with a lone knot", Edge.then(Nets::rich, x -> x.knot()), x -> x.faces(), 4);
        Edge.tells("faces() of a twisted bundle", Nets::twisted, x -> x.faces(), 2);
        Edge.tells("faces() with all wires of a knot cut", EdgeAnswersTest::fourth, x -> x.faces(), 4);
    }

    /** Promise 17: the FACE to the right of a dart. NO: there is no such dart. */
    private static void face() {
        Edge.tells("face(0)", Nets::rich, x -> x.face(0), 0);
        Edge.tells("face(11), the last dart", Nets::rich, x -> x.face(11), 0);
        for (int dart : new int[] {-1, 12, 44, MIN, MAX}) {
            Edge.refused("face(" + dart + "), no such dart", Nets::rich, x -> x.face(dart));
        }
        Edge.tells("face(42) of 44 darts", () -> Nets.bundle(22), x -> x.face(42), 21);
        Edge.tells("face(43) of 44 darts", () -> Nets.bundle(22), x -> x.face(43), 0);
        Edge.refused("face(44) of 44 darts", () -> Nets.bundle(22), x -> x.face(44));
        Edge.refused("face(-1) of 44 darts", () -> Nets.bundle(22), x -> x.face(-1));
        Edge.refused("face(0) of knots without wires", () -> Nets.lone(2), x -> x.face(0));
    }

    /** NO: CAUSE 2 is so; the other causes are none for it. */
    private static void facesRefused() {
        Edge.Made[] made = causes();
        int[] count = {4, 0, 4, 4, 2};
        for (int c : new int[] {1, 3, 4, 5}) {
            Edge.tells("faces() with cause " + c, made[c - 1], x -> x.faces(), count[c - 1]);
            Edge.tells("face(0) with cause " + c, made[c - 1], x -> x.face(0), 0);
            Edge.refused("face(12) with cause " + c, made[c - 1], x -> x.face(12));
        }
        for (int k = 0; k < 4; k++) {
            int bared = k;
            Edge.Made lacking = Edge.then(Nets::rich, x -> x.bare(bared));
            Edge.refused("faces() with turn " + k + " empty", lacking, x -> x.faces());
            Edge.refused("face(0) with turn " + k + " empty", lacking, x -> x.face(0));
            Edge.refused("face(11) with turn " + k + " empty", lacking, x -> x.face(11));
            Edge.Made unpowered = Edge.then(lacking, x -> x.battery(-1));
            Edge.refused("faces() with turn " + k + " empty, no battery", unpowered, x -> x.faces());
            Edge.refused("face(0) with turn " + k + " empty, no battery", unpowered, x -> x.face(0));
        }
    }

    /** Promise 18: the ways to take PLAIN wires so that they hang all knots together, and none can be left out. */
    private static void trees() {
        Edge.tells("trees() of the least net", () -> Nets.bundle(2), x -> x.trees(), 1);
        Edge.tells("trees() of 21 side by side", () -> Nets.bundle(22), x -> x.trees(), 21);
        Edge.tells("trees() of a chain of twelve", () -> Nets.chain(12), x -> x.trees(), 1);
        Edge.tells("trees() without the cut wire", Nets::rich, x -> x.trees(), 3);
        Edge.tells("trees() with it", Nets::whole, x -> x.trees(), 8);
        Edge.tells("trees() of the fullest net", Nets::brimful, x -> x.trees(), 1024);
        // The 22nd of Fibonacci's numbers.
        Edge.tells("trees() of a fan", Nets::fan, x -> x.trees(), 17711);
        Edge.tells("trees() with a loose end", () -> Nets.withLooseEnd(Nets.rich(), 3), x -> x.trees(), 3);
    }

    /** Promise 19: the CURRENT of a wire. NO: there is no such wire. */
    private static void current() {
        int[] want = {0, 3, -1, 1, 2, 0};
        for (int w = 0; w < 6; w++) {
            int wire = w;
            Edge.tells("current(" + w + ")", Nets::rich, x -> x.current(wire), want[w]);
        }
        for (int bad : new int[] {-1, 6, 22, MIN, MAX}) {
            Edge.refused("current(" + bad + "), no such wire", Nets::rich, x -> x.current(bad));
        }
        SquareTiler fan = Nets.fan();
        for (int w = 0; w < 22; w++) {
            Due.due("fan: current(" + w + ")", fan.current(w), FAN_CURRENTS[w]);
        }
        Edge.refused("current(22) of 22 wires", Nets::fan, x -> x.current(22));
        // No common divisor above 1: what is left of three wires one behind the other is 1 each.
        Edge.tells("current(1) of a chain", () -> Nets.chain(4), x -> x.current(1), 1);
    }

    /** Promise 20: the HEIGHT of a knot. NO: there is no such knot. */
    private static void height() {
        int[] want = {5, 1, 2, 0};
        for (int k = 0; k < 4; k++) {
            int knot = k;
            Edge.tells("height(" + k + ")", Nets::rich, x -> x.height(knot), want[k]);
        }
        for (int bad : new int[] {-1, 4, 12, MIN, MAX}) {
            Edge.refused("height(" + bad + "), no such knot", Nets::rich, x -> x.height(bad));
        }
        SquareTiler fan = Nets.fan();
        for (int k = 0; k < 12; k++) {
            Due.due("fan: height(" + k + ")", fan.height(k), FAN_HEIGHTS[k]);
        }
        Edge.refused("height(12) of twelve knots", Nets::fan, x -> x.height(12));
        Edge.tells("height() of the second end when it is the first knot", EdgeAnswersTest::upwards,
                x -> x.height(0), 0);
        Edge.tells("height() of the first end when it is the last knot", EdgeAnswersTest::upwards,
                x -> x.height(1), 1);
    }

    /** The battery goes from knot 1 to knot 0, so the wire from 0 to 1 has a current below 0. */
    private static SquareTiler upwards() {
        SquareTiler x = Nets.lone(2);
        x.wire(1, 0);
        x.wire(0, 1);
        Nets.layRow(x, 0, 0, 1);
        Nets.layRow(x, 1, 1, 0);
        x.battery(0);
        return x;
    }

    /** Promise 21: the PLACE of a face: 0 to the left of the BATTERY, WIDE to its right. NO: there is no such face. */
    private static void place() {
        int[] want = {0, 0, 3, 1};
        for (int f = 0; f < 4; f++) {
            int face = f;
            Edge.tells("place(" + f + ")", Nets::rich, x -> x.place(face), want[f]);
        }
        for (int bad : new int[] {-1, 4, 22, MIN, MAX}) {
            Edge.refused("place(" + bad + "), no such face", Nets::rich, x -> x.place(bad));
        }
        Edge.tells("place() left of the battery", Nets::fan, x -> x.place(x.face(43)), 0);
        Edge.tells("place() right of the battery", Nets::fan, x -> x.place(x.face(42)), 89);
        // 22 faces, the battery between the last one and face 0: wire w has face w to its right.
        Edge.tells("place(0) of 22 faces", () -> Nets.bundle(22), x -> x.place(0), 0);
        Edge.tells("place(1) of 22 faces", () -> Nets.bundle(22), x -> x.place(1), 1);
        Edge.tells("place(21) of 22 faces", () -> Nets.bundle(22), x -> x.place(21), 21);
        Edge.refused("place(22) of 22 faces", () -> Nets.bundle(22), x -> x.place(22));
        placeUpwards();
        placeRoundTheBattery();
        // Across a cut wire the place is the same.
        Edge.tells("place() right of a cut wire", Nets::rich, x -> x.place(x.face(0)), 0);
        Edge.tells("place() left of a cut wire", Nets::rich, x -> x.place(x.face(1)), 0);
        Edge.tells("place() left of a battery that goes upwards", EdgeAnswersTest::upwards, x -> x.place(x.face(1)), 0);
        Edge.tells("place() right of a battery that goes upwards", EdgeAnswersTest::upwards,
                x -> x.place(x.face(0)), 1);
    }

    /** The battery is in the midst of 22 wires: places rise from its left on, behind the last face comes face 0. */
    private static void placeRoundTheBattery() {
        for (int power : new int[] {0, 10, 20}) {
            Edge.Made made = Edge.then(() -> Nets.bundle(22), x -> x.battery(power));
            for (int f : new int[] {0, 1, 10, 11, 20, 21}) {
                Edge.tells("place(" + f + ") with the battery " + power, made, x -> x.place(f),
                        Math.floorMod(f - power - 1, 22));
            }
            Edge.tells("square(21, 0) with the battery " + power, made, x -> x.square(21, 0), 20 - power);
        }
        int[] mirrored = {3, 3, 0, 2};
        for (int f = 0; f < 4; f++) {
            int face = f;
            Edge.tells("place(" + f + ") mirrored", Edge.then(Nets::rich, x -> x.mirror()), x -> x.place(face),
                    mirrored[f]);
        }
    }

    /** 21 wires go up while the battery goes down: the place falls to the left of each. */
    private static void placeUpwards() {
        Edge.Made made = () -> {
            SquareTiler x = Nets.lone(2);
            for (int w = 0; w < 21; w++) {
                x.wire(1, 0);
                x.lay(0, w);
            }
            x.battery(x.wire(0, 1));
            x.lay(0, 21);
            for (int w = 21; w >= 0; w--) {
                x.lay(1, w);
            }
            return x;
        };
        for (int w : new int[] {0, 1, 19, 20}) {
            Edge.tells("place() right of wire " + w + " that goes up", made, x -> x.place(x.face(2 * w)), w + 1);
            Edge.tells("place() left of wire " + w + " that goes up", made, x -> x.place(x.face(2 * w + 1)), w);
            Edge.tells("square(" + w + ", 0) that goes up", made, x -> x.square(w, 0), w);
        }
    }

    private static void dueRectangle(String label, Edge.Made made, int... want) {
        for (int what = 0; what < 5; what++) {
            int asked = what;
            Edge.tells(label + ": rectangle(" + what + ")", made, x -> x.rectangle(asked), want[what]);
        }
    }

    /** Promise 22: WIDE, HIGH, how many SQUARES, PERFECT, SIMPLE. NO: another what. */
    private static void rectangle() {
        dueRectangle("rich", Nets::rich, 3, 5, 4, 0, 0);
        dueRectangle("a fan", Nets::fan, 89, 110, 20, 0, 0);
        dueRectangle("the fullest net", Nets::brimful, 2, 12, 21, 0, 0);
        dueRectangle("upwards", EdgeAnswersTest::upwards, 1, 1, 1, 1, 1);
        for (int what : new int[] {-1, 5, MIN, MAX}) {
            Edge.refused("rectangle(" + what + "), another what", Nets::rich, x -> x.rectangle(what));
        }
    }

    /** PERFECT if no two sides are the same, and no PLAIN wire has the CURRENT 0. */
    private static void perfect() {
        Edge.tells("perfect: one square", () -> Nets.bundle(2), x -> x.rectangle(3), 1);
        Edge.tells("perfect: two squares of the same side", () -> Nets.bundle(3), x -> x.rectangle(3), 0);
        Edge.tells("perfect: one square, a cut wire", Edge.then(() -> Nets.bundle(3), x -> x.cut(1, true)),
                x -> x.rectangle(3), 1);
        Edge.Made loose = () -> Nets.withLooseEnd(Nets.bundle(2), 1);
        Edge.tells("perfect: one square, a plain wire with the current 0", loose, x -> x.rectangle(3), 0);
        Edge.tells("perfect: nine squares", EdgeAnswersTest::nine, x -> x.rectangle(3), 1);
        Edge.Made nineAndLoose = () -> Nets.withLooseEnd(nine(), 0);
        Edge.tells("perfect: nine squares and a plain wire with the current 0", nineAndLoose, x -> x.rectangle(3), 0);
        Edge.tells("perfect: it is no square", nineAndLoose, x -> x.rectangle(2), 9);
    }

    private static SquareTiler nine() {
        SquareTiler x = Nets.blank();
        Nets.tellPerfect(x);
        x.read(33, 32);
        return x;
    }

    /** SIMPLE if there is no INNER set: two or more SQUARES, but not all, that make a rectangle. */
    private static void simple() {
        Edge.tells("simple: one square", () -> Nets.bundle(2), x -> x.rectangle(4), 1);
        Edge.tells("simple: two squares, they are all", () -> Nets.bundle(3), x -> x.rectangle(4), 1);
        Edge.tells("simple: two squares one on the other", () -> Nets.chain(3), x -> x.rectangle(4), 1);
        Edge.tells("simple: three squares, two are inner", () -> Nets.bundle(4), x -> x.rectangle(4), 0);
        Edge.tells("simple: three squares on one another", () -> Nets.chain(4), x -> x.rectangle(4), 0);
        Edge.tells("simple: nine squares", EdgeAnswersTest::nine, x -> x.rectangle(4), 1);
        // All but one are inner: a square beside the nine.
        Edge.tells("simple: nine of ten", EdgeAnswersTest::nineAndOne, x -> x.rectangle(4), 0);
        for (int i = 0; i < 9; i++) {
            int asked = i;
            Edge.tells("simple: within(" + i + ") of ten", EdgeAnswersTest::nineAndOne, x -> x.within(asked), i + 1);
        }
        Edge.tells("simple: within(9) of ten", EdgeAnswersTest::nineAndOne, x -> x.within(9), -1);
    }

    /** The square beside the nine is told first: they are wires 1 to 9. */
    private static SquareTiler nineAndOne() {
        return besideNine(0, 0, 33, 0, 32);
    }

    /** A square is told, then the nine further right and further up; all of it is read. */
    private static SquareTiler besideNine(int right, int up, int left, int low, int side) {
        SquareTiler x = Nets.blank();
        x.tell(left, low, side);
        Nets.tellPerfect(x);
        for (int i = 1; i <= 9; i++) {
            int itsLeft = x.alter(i, 0, 0);
            int itsLow = x.alter(i, 1, 0);
            x.alter(i, 0, itsLeft + right);
            x.alter(i, 1, itsLow + up);
        }
        x.read(side == 32 ? 65 : 33, side == 32 ? 32 : 65);
        return x;
    }

    /** An INNER set may touch other squares, on each of its sides. */
    private static void innerTouches() {
        dueNine("at the left", () -> besideNine(32, 0, 0, 0, 32));
        dueNine("at the right", () -> besideNine(0, 0, 33, 0, 32));
        dueNine("below", () -> besideNine(0, 33, 0, 0, 33));
        dueNine("above", () -> besideNine(0, 0, 0, 32, 33));
    }

    private static void dueNine(String where, Edge.Made made) {
        Edge.tells("a square " + where + ": cause()", made, x -> x.cause(), 0);
        Edge.tells("a square " + where + ": simple", made, x -> x.rectangle(4), 0);
        Edge.tells("a square " + where + ": within(0)", made, x -> x.within(0), 1);
        Edge.tells("a square " + where + ": within(8)", made, x -> x.within(8), 9);
        Edge.tells("a square " + where + ": within(9)", made, x -> x.within(9), -1);
    }

    /** THE LEAST INNER set: the fewest squares, then the lesser LEFT, then the lesser LOW, then the less wide one. */
    private static void leastInner() {
        // The nine make a rectangle at the left, a pair makes one at the right: fewer count before LEFT.
        dueLeast("fewest", 49, 32, 9, 10, 0, 14, 18, 18, 17, 15, 18, 10, 7, 25, 9, 8, 0, 0, 14, 14, 10, 4, 14, 0, 10,
                24, 9, 1, 24, 0, 9, 33, 0, 16, 33, 16, 16);
        // A pair at the left stands high up and is wide, a pile at the right stands low: LEFT counts before LOW.
        dueLeast("left", 3, 6, 4, 5, 2, 0, 1, 2, 1, 1, 0, 0, 2, 0, 2, 3, 0, 5, 1, 1, 5, 1, 2, 5, 1);
        // A wide pair at the bottom, a pile higher up, both at the left side: LOW counts before the width.
        dueLeast("low", 2, 5, 0, 1, 0, 0, 1, 1, 0, 1, 0, 1, 2, 0, 3, 1, 1, 3, 1, 0, 4, 1, 1, 4, 1);
        // Two wide pairs at the left side, neither at the bottom.
        dueLeast("low, above the bottom", 2, 6, 1, 2, 0, 0, 2, 0, 2, 1, 1, 2, 1, 0, 3, 2, 0, 5, 1, 1, 5, 1);
        // A wide pair and a pile in the same corner.
        dueLeast("width", 2, 2, 0, 2, 0, 0, 1, 1, 0, 1, 0, 1, 1, 1, 1, 1);
        dueLeast("width, the pile first", 2, 2, 0, 1, 0, 0, 1, 0, 1, 1, 1, 0, 1, 1, 1, 1);
    }

    /** The two squares of the least inner set among rows of LEFT, LOW and side, be they told in order or backwards. */
    private static void dueLeast(String label, int wide, int high, int a, int b, int... rows) {
        int last = rows.length / 3 - 1;
        for (boolean isBackwards : new boolean[] {false, true}) {
            Edge.Made made = () -> {
                SquareTiler x = Nets.blank();
                for (int i = 0; i <= last; i++) {
                    int row = 3 * (isBackwards ? last - i : i);
                    x.tell(rows[row], rows[row + 1], rows[row + 2]);
                }
                x.read(wide, high);
                return x;
            };
            String which = "least inner by " + label + (isBackwards ? " backwards" : "");
            Edge.tells(which + ": cause()", made, x -> x.cause(), 0);
            Edge.tells(which + ": within(0)", made, x -> x.within(0), isBackwards ? last - b : a);
            Edge.tells(which + ": within(1)", made, x -> x.within(1), isBackwards ? last - a : b);
            Edge.tells(which + ": within(2)", made, x -> x.within(2), -1);
        }
    }

    /** Promise 23: 0 LEFT, 1 LOW, 2 side. NO: there is no such wire or what, or it is no SQUARE. */
    private static void square() {
        int[][] want = {{0, 2, 3}, {0, 1, 1}, {0, 0, 1}, {1, 0, 2}};
        for (int what = 0; what < 3; what++) {
            int part = what;
            for (int w = 1; w < 5; w++) {
                int wire = w;
                Edge.tells("square(" + w + ", " + what + ")", Nets::rich, x -> x.square(wire, part), want[w - 1][what]);
            }
            Edge.refused("square(0, " + what + "), a cut wire", Nets::rich, x -> x.square(0, part));
            Edge.refused("square(5, " + what + "), the battery", Nets::rich, x -> x.square(5, part));
            Edge.refused("square(2, " + what + "), the current 0", Nets::whole, x -> x.square(2, part));
            Edge.refused("square(15, " + what + "), the current 0", Nets::fan, x -> x.square(15, part));
            for (int bad : new int[] {-1, 6, 22, MIN, MAX}) {
                Edge.refused("square(" + bad + ", " + what + "), no such wire", Nets::rich, x -> x.square(bad, part));
            }
        }
        for (int bad : new int[] {-1, 3, MIN, MAX}) {
            Edge.refused("square(1, " + bad + "), no such what", Nets::rich, x -> x.square(1, bad));
        }
        Edge.tells("square(20, 1) below 0 gone upwards", Nets::fan, x -> x.square(20, 1), 0);
        Edge.tells("square(20, 2), its side has no sign", Nets::fan, x -> x.square(20, 2), 55);
        Edge.tells("square(20, 0)", Nets::fan, x -> x.square(20, 0), 34);
        Edge.tells("square(21, 0), the last of 22 wires", Nets::brimful, x -> x.square(21, 0), 0);
        Edge.tells("square(21, 2), the last of 22 wires", Nets::brimful, x -> x.square(21, 2), 2);
    }

    /** Promise 24: the i-th wire, by rising numbers, from 0 on, of THE LEAST INNER set; -1 when there is none such. */
    private static void within() {
        Edge.tells("within(0)", Nets::rich, x -> x.within(0), 2);
        Edge.tells("within(1), the last", Nets::rich, x -> x.within(1), 3);
        for (int i : new int[] {-1, 2, 21, 32, MIN, MAX}) {
            Edge.tells("within(" + i + "), none such", Nets::rich, x -> x.within(i), -1);
            Edge.tells("within(" + i + ") of a simple one", () -> Nets.bundle(3), x -> x.within(i), -1);
        }
        Edge.tells("within(0) of a simple one", () -> Nets.bundle(3), x -> x.within(0), -1);
        Edge.tells("within(0) of one square", () -> Nets.bundle(2), x -> x.within(0), -1);
        // Four of side 1 stand at the left: the lower pair and the pile are as far left and as low.
        Edge.tells("within(0) of a fan", Nets::fan, x -> x.within(0), 4);
        Edge.tells("within(1) of a fan", Nets::fan, x -> x.within(1), 5);
        Edge.tells("within(2) of a fan", Nets::fan, x -> x.within(2), -1);
        // The last square is in it: the lowest of a pile, which is drawn from above.
        Edge.tells("within(0) of a pile of eleven", () -> Nets.chain(12), x -> x.within(0), 10);
        Edge.tells("within(1) of a pile of eleven", () -> Nets.chain(12), x -> x.within(1), 11);
        Edge.tells("within(0) of 21 in a row", () -> Nets.bundle(22), x -> x.within(0), 0);
        Edge.tells("within(1) of 21 in a row", () -> Nets.bundle(22), x -> x.within(1), 1);
        Edge.Made mirrored = Edge.then(() -> Nets.bundle(22), x -> x.mirror());
        Edge.tells("within(0) of 21 in a row mirrored", mirrored, x -> x.within(0), 19);
        Edge.tells("within(1) of 21 in a row mirrored", mirrored, x -> x.within(1), 20);
        Edge.tells("within(2) of 21 in a row mirrored", mirrored, x -> x.within(2), -1);
    }

    /** Promise 25: the wire whose SQUARE is on the unit from x to x + 1, from y to y + 1; -1 outside. */
    private static void at() {
        int[][] want = {{3, 4, 4}, {2, 4, 4}, {1, 1, 1}, {1, 1, 1}, {1, 1, 1}};
        for (int v = 0; v < 5; v++) {
            for (int u = 0; u < 3; u++) {
                int right = u;
                int up = v;
                Edge.tells("at(" + u + ", " + v + ")", Nets::rich, x -> x.at(right, up), want[v][u]);
            }
        }
        for (int bad : new int[] {-1, 5, MIN, MAX}) {
            Edge.tells("at(" + bad + ", 0)", Nets::rich, x -> x.at(bad, 0), -1);
            Edge.tells("at(0, " + bad + ")", Nets::rich, x -> x.at(0, bad), -1);
            Edge.tells("at(" + bad + ", " + bad + ")", Nets::rich, x -> x.at(bad, bad), -1);
        }
        Edge.tells("at(3, 0), behind the last", Nets::rich, x -> x.at(3, 0), -1);
        Edge.tells("at(2, 5), above the last", Nets::rich, x -> x.at(2, 5), -1);
        Edge.tells("at(88, 109) of 89 by 110", Nets::fan, x -> x.at(88, 109), 10);
        Edge.tells("at(89, 109) of 89 by 110", Nets::fan, x -> x.at(89, 109), -1);
        Edge.tells("at(88, 110) of 89 by 110", Nets::fan, x -> x.at(88, 110), -1);
        Edge.tells("at(88, 0) of 89 by 110", Nets::fan, x -> x.at(88, 0), 20);
        Edge.tells("at(88, -1) of 89 by 110", Nets::fan, x -> x.at(88, -1), -1);
    }

    /** NO: the net is not READY, by each cause; this is asked before all that would be -1. */
    private static void notReady() {
        Edge.Made[] made = causes();
        for (int c = 1; c <= 5; c++) {
            Edge.Made is = made[c - 1];
            String by = " with cause " + c;
            Edge.refused("trees()" + by, is, x -> x.trees());
            Edge.refused("current(1)" + by, is, x -> x.current(1));
            Edge.refused("height(0)" + by, is, x -> x.height(0));
            Edge.refused("place(0)" + by, is, x -> x.place(0));
            for (int what = -1; what <= 5; what++) {
                int asked = what;
                Edge.refused("rectangle(" + what + ")" + by, is, x -> x.rectangle(asked));
            }
            Edge.refused("square(1, 0)" + by, is, x -> x.square(1, 0));
            Edge.refused("square(4, 2)" + by, is, x -> x.square(4, 2));
            Edge.refused("within(0)" + by, is, x -> x.within(0));
            Edge.refused("within(-1)" + by, is, x -> x.within(-1));
            Edge.refused("at(0, 0)" + by, is, x -> x.at(0, 0));
            Edge.refused("at(-1, -1)" + by, is, x -> x.at(-1, -1));
            Edge.refused("copy()" + by, is, x -> x.copy());
            Edge.refused("grant()" + by, is, x -> x.grant());
            Edge.refused("judge()" + by, is, x -> x.judge());
        }
    }

    /** Promise 36: 0 knots, 1 wires, 2 told squares, 3 the BATTERY's number (-1 for none). NO: another what. */
    private static void count() {
        int[] want = {4, 6, 2, 5};
        int[] most = {12, 22, 21, 0};
        for (int what = 0; what < 4; what++) {
            int asked = what;
            Edge.tells("count(" + what + ")", Nets::rich, x -> x.count(asked), want[what]);
            Edge.tells("count(" + what + ") at the most", Nets::brimful, x -> x.count(asked), most[what]);
        }
        Edge.tells("count(3), no battery", Edge.then(Nets::rich, x -> x.battery(-1)), x -> x.count(3), -1);
        Edge.tells("count(3), the last wire", Nets::fan, x -> x.count(3), 21);
        for (int what : new int[] {-1, 4, MIN, MAX}) {
            Edge.refused("count(" + what + "), another what", Nets::rich, x -> x.count(what));
        }
    }

    /** An object is used for at most 512 calls: the last of them is answered as the first one. */
    private static void the512thCall() {
        SquareTiler x = new SquareTiler();
        Nets.tellPerfect(x);
        for (int call = 10; call < 512; call++) {
            Due.due("call " + call, call % 2 == 0 ? x.read(33, 32) : x.about(), 6);
        }
        Due.due("the 512th call", x.rectangle(0), 32);
    }
}
