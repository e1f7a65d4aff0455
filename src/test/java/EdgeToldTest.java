/**
 * The boundary cases of promises 26 to 31, each sentence by itself: the last input that is taken, the first one that
 * is refused, and all that the call changes.
 */
public final class EdgeToldTest {
    private static final int MIN = Edge.MIN;
    private static final int MAX = Edge.MAX;
    private static final int MOST = 1000000;

    public static void main(String[] args) {
        tell();
        tellRefused();
        alter();
        alterRefused();
        hush();
        copy();
        copyOfSome();
        fitRefused();
        fitStandsOut();
        fitOverlaps();
        fitCovers();
        fitFirst();
        read();
        readLines();
        readLastAndFirst();
        readKnots();
        readRefused();
        Due.finish("EdgeToldTest");
    }

    /** An object of which only these squares are told. */
    private static Edge.Made told(int... rows) {
        return () -> {
            SquareTiler x = Nets.blank();
            tellRows(x, rows);
            return x;
        };
    }

    private static void tellRows(SquareTiler x, int... rows) {
        for (int i = 0; i + 2 < rows.length; i += 3) {
            x.tell(rows[i], rows[i + 1], rows[i + 2]);
        }
    }

    /** The net, the claims and what is kept of the rich one, and told squares of its own. */
    private static Edge.Made richTold(int... rows) {
        return () -> {
            SquareTiler x = Nets.rich();
            x.hush();
            tellRows(x, rows);
            return x;
        };
    }

    private static SquareTiler twenty() {
        SquareTiler x = Nets.blank();
        for (int i = 0; i < 20; i++) {
            x.tell(i, 0, 1);
        }
        return x;
    }

    /** Promise 26: a square more is told: how many are. */
    private static void tell() {
        Edge.takes("tell() the first", Nets::blank, x -> x.tell(0, 0, 1), 1, "told: 1", "told 0: 0 0 1");
        Edge.takes("tell() the third", Nets::rich, x -> x.tell(7, 8, 9), 3, "told: 3", "told 2: 7 8 9");
        Edge.takes("tell() the same again", Nets::rich, x -> x.tell(4, 5, 6), 3, "told: 3", "told 2: 4 5 6");
        Edge.takes("tell(1000000, 0, 1)", Nets::rich, x -> x.tell(MOST, 0, 1), 3, "told: 3", "told 2: 1000000 0 1");
        Edge.takes("tell(0, 1000000, 1)", Nets::rich, x -> x.tell(0, MOST, 1), 3, "told: 3", "told 2: 0 1000000 1");
        Edge.takes("tell(0, 0, 1000000)", Nets::rich, x -> x.tell(0, 0, MOST), 3, "told: 3", "told 2: 0 0 1000000");
        Edge.takes("tell() all three at the most", Nets::rich, x -> x.tell(MOST, MOST, MOST), 3, "told: 3",
                "told 2: 1000000 1000000 1000000");
        Edge.takes("tell() the 21st", EdgeToldTest::twenty, x -> x.tell(5, 6, 7), 21, "told: 21", "told 20: 5 6 7");
    }

    /** NO: there are 21; left or low is below 0, side below 1, or one of the three above 1000000. */
    private static void tellRefused() {
        Edge.refused("tell() the 22nd", Nets::brimful, x -> x.tell(0, 0, 1));
        for (int bad : new int[] {-1, MIN, MOST + 1, MAX}) {
            Edge.refused("tell(" + bad + ", 0, 1)", Nets::rich, x -> x.tell(bad, 0, 1));
            Edge.refused("tell(0, " + bad + ", 1)", Nets::rich, x -> x.tell(0, bad, 1));
            Edge.refused("tell(0, 0, " + bad + ")", Nets::rich, x -> x.tell(0, 0, bad));
        }
        Edge.refused("tell(0, 0, 0)", Nets::rich, x -> x.tell(0, 0, 0));
        Edge.refused("tell(5, 5, 0)", Nets::blank, x -> x.tell(5, 5, 0));
    }

    /** Promise 27: of told square i what (0 LEFT, 1 LOW, 2 side) becomes a number: what it was. */
    private static void alter() {
        Edge.takes("alter(0, 0, 9), the first square", Nets::rich, x -> x.alter(0, 0, 9), 1, "told 0: 9 2 3");
        Edge.takes("alter(1, 2, 9), the last square", Nets::rich, x -> x.alter(1, 2, 9), 6, "told 1: 4 5 9");
        Edge.takes("alter(1, 0, 0), the least left", Nets::rich, x -> x.alter(1, 0, 0), 4, "told 1: 0 5 6");
        Edge.takes("alter(1, 1, 0), the least low", Nets::rich, x -> x.alter(1, 1, 0), 5, "told 1: 4 0 6");
        Edge.takes("alter(1, 2, 1), the least side", Nets::rich, x -> x.alter(1, 2, 1), 6, "told 1: 4 5 1");
        Edge.takes("alter(0, 0, 1000000)", Nets::rich, x -> x.alter(0, 0, MOST), 1, "told 0: 1000000 2 3");
        Edge.takes("alter(0, 1, 1000000)", Nets::rich, x -> x.alter(0, 1, MOST), 2, "told 0: 1 1000000 3");
        Edge.takes("alter(0, 2, 1000000)", Nets::rich, x -> x.alter(0, 2, MOST), 3, "told 0: 1 2 1000000");
        Edge.tells("alter(0, 0, 1) that it is", Nets::rich, x -> x.alter(0, 0, 1), 1);
        Edge.takes("alter(20, 1, 7), the 21st", Nets::brimful, x -> x.alter(20, 1, 7), 1, "told 20: 20 7 21");
    }

    /** NO: there is no such square or what; the number is not as by tell(). */
    private static void alterRefused() {
        for (int i : new int[] {-1, 2, 21, MIN, MAX}) {
            for (int what = 0; what < 3; what++) {
                int part = what;
                Edge.refused("alter(" + i + ", " + what + ", 1), no such square", Nets::rich,
                        x -> x.alter(i, part, 1));
            }
        }
        for (int what : new int[] {-1, 3, MIN, MAX}) {
            Edge.refused("alter(0, " + what + ", 1), no such what", Nets::rich, x -> x.alter(0, what, 1));
            Edge.refused("alter(1, " + what + ", 1), no such what", Nets::rich, x -> x.alter(1, what, 1));
        }
        for (int v : new int[] {-1, MIN, MOST + 1, MAX}) {
            for (int what = 0; what < 3; what++) {
                int part = what;
                Edge.refused("alter(1, " + what + ", " + v + ")", Nets::rich, x -> x.alter(1, part, v));
            }
        }
        Edge.refused("alter(1, 2, 0), a side below 1", Nets::rich, x -> x.alter(1, 2, 0));
        Edge.refused("alter(21, 0, 1) of 21", Nets::brimful, x -> x.alter(21, 0, 1));
        Edge.refused("alter(0, 0, 1) when none is told", Edge.then(Nets::rich, x -> x.hush()), x -> x.alter(0, 0, 1));
        Edge.refused("alter(20, 2, 1) of twenty", EdgeToldTest::twenty, x -> x.alter(20, 2, 1));
    }

    /** Promise 28: no squares are told: how many were. */
    private static void hush() {
        Edge.takes("hush()", Nets::rich, x -> x.hush(), 2, "told: 0", "no told 0", "no told 1");
        Edge.tells("hush() when none is told", Edge.then(Nets::rich, x -> x.hush()), x -> x.hush(), 0);
        Edge.tells("hush() of a new object", Nets::blank, x -> x.hush(), 0);
        Due.due("hush() of 21", Nets.brimful().hush(), 21);
        Edge.takes("hush() and tell()", Edge.then(Nets::brimful, x -> x.hush()), x -> x.tell(3, 2, 1), 1, "told: 1",
                "told 0: 3 2 1");
    }

    /** Promise 29: the told squares become those of THE LAYING, by the numbers of wires: how many. */
    private static void copy() {
        Edge.takes("copy() of more than were told", Nets::rich, x -> x.copy(), 4, "told: 4", "told 0: 0 2 3",
                "told 1: 0 1 1", "told 2: 0 0 1", "told 3: 1 0 2");
        Edge.takes("copy() of as many", richTold(9, 9, 9, 8, 8, 8, 7, 7, 7, 6, 6, 6), x -> x.copy(), 4,
                "told 0: 0 2 3", "told 1: 0 1 1", "told 2: 0 0 1", "told 3: 1 0 2");
        Edge.takes("copy() of less than were told", richTold(9, 9, 9, 8, 8, 8, 7, 7, 7, 6, 6, 6, 5, 5, 5),
                x -> x.copy(), 4, "told: 4", "told 0: 0 2 3", "told 1: 0 1 1", "told 2: 0 0 1", "told 3: 1 0 2",
                "no told 4");
        Edge.tells("copy() again", Edge.then(Nets::rich, x -> x.copy()), x -> x.copy(), 4);
        Due.due("copy() when 21 are told", Nets.brimful().copy(), 21);
    }

    /** A wire that is cut, or the battery, or without current, is no square of the laying. */
    private static void copyOfSome() {
        Edge.takes("copy() of one", () -> Nets.bundle(2), x -> x.copy(), 1, "told: 1", "told 0: 0 0 1");
        Edge.takes("copy() with a wire without current", Nets::whole, x -> x.copy(), 4, "told: 4", "told 0: 0 1 1",
                "told 1: 1 1 1", "told 2: 0 0 1", "told 3: 1 0 1");
        SquareTiler x = Nets.bundle(22);
        Due.due("copy() of 21", x.copy(), 21);
        for (int i = 0; i < 21; i++) {
            Due.due("copy: left of " + i, x.alter(i, 0, i), i);
            Due.due("copy: low of " + i, x.alter(i, 1, 0), 0);
            Due.due("copy: side of " + i, x.alter(i, 2, 1), 1);
        }
        Due.due("copy: they fit", x.fit(21, 1), 0);
        SquareTiler fan = Nets.fan();
        Due.due("copy() of a fan", fan.copy(), 20);
        Due.due("copy: it fits", fan.fit(89, 110), 0);
        Due.due("copy: behind the wire without current", fan.alter(15, 1, 0), 54);
    }

    /** Promise 30. NO: w or h is not 1..1000000, or no square is told. */
    private static void fitRefused() {
        for (int bad : new int[] {0, -1, MIN, MOST + 1, MAX}) {
            Edge.refused("fit(" + bad + ", 1)", richTold(0, 0, 1), x -> x.fit(bad, 1));
            Edge.refused("fit(1, " + bad + ")", richTold(0, 0, 1), x -> x.fit(1, bad));
            Edge.refused("fit(" + bad + ", " + bad + ")", richTold(0, 0, 1), x -> x.fit(bad, bad));
        }
        Edge.refused("fit(1, 1) when none is told", Edge.then(Nets::rich, x -> x.hush()), x -> x.fit(1, 1));
        Edge.refused("fit(1000000, 1000000) when none is told", Nets::blank, x -> x.fit(MOST, MOST));
        Edge.tells("fit(1, 1), the least", richTold(0, 0, 1), x -> x.fit(1, 1), 0);
        Edge.tells("fit(1000000, 1), wider", richTold(0, 0, 1), x -> x.fit(MOST, 1), 3);
        Edge.tells("fit(1, 1000000), higher", richTold(0, 0, 1), x -> x.fit(1, MOST), 3);
        Edge.tells("fit(1000000, 1000000), the most", told(0, 0, MOST), x -> x.fit(MOST, MOST), 0);
    }

    /** 100 and the least square that stands out. */
    private static void fitStandsOut() {
        Edge.tells("fit: up to the right side", told(0, 0, 2, 2, 0, 2), x -> x.fit(4, 2), 0);
        Edge.tells("fit: one beyond the right side", told(0, 0, 2, 2, 0, 2), x -> x.fit(3, 2), 101);
        Edge.tells("fit: up to the upper side", told(0, 0, 2, 0, 2, 2), x -> x.fit(2, 4), 0);
        Edge.tells("fit: one beyond the upper side", told(0, 0, 2, 0, 2, 2), x -> x.fit(2, 3), 101);
        Edge.tells("fit: the first stands out", told(0, 0, 3, 0, 0, 1), x -> x.fit(2, 2), 100);
        Edge.tells("fit: the least of two that stand out", told(0, 0, 1, 0, 1, 9, 1, 0, 9), x -> x.fit(2, 2), 101);
        Edge.tells("fit: it begins at the right side", told(0, 0, 1, 1, 0, 1), x -> x.fit(1, 1), 101);
        Edge.tells("fit: it begins far beyond", told(MOST, MOST, MOST), x -> x.fit(MOST, MOST), 100);
        Edge.tells("fit: to the right alone", told(MOST, 0, 1), x -> x.fit(MOST, MOST), 100);
        Edge.tells("fit: above alone", told(0, MOST, 1), x -> x.fit(MOST, MOST), 100);
        Edge.tells("fit: up to 1000000", told(MOST - 1, MOST - 1, 1), x -> x.fit(MOST, MOST), 3);
        Edge.tells("fit: the 21st stands out", Edge.then(EdgeToldTest::twenty, x -> x.tell(20, 1, 1)),
                x -> x.fit(21, 1), 120);
    }

    /** 1000, 30 times the least square that overlaps a later one, and the least such later one. */
    private static void fitOverlaps() {
        Edge.tells("fit: the same twice", told(0, 0, 1, 0, 0, 1), x -> x.fit(1, 1), 1001);
        Edge.tells("fit: overlap by one to the right", told(0, 0, 2, 1, 0, 2), x -> x.fit(4, 4), 1001);
        Edge.tells("fit: overlap by one to the left", told(1, 0, 2, 0, 0, 2), x -> x.fit(4, 4), 1001);
        Edge.tells("fit: overlap by one above", told(0, 0, 2, 0, 1, 2), x -> x.fit(4, 4), 1001);
        Edge.tells("fit: overlap by one below", told(0, 1, 2, 0, 0, 2), x -> x.fit(4, 4), 1001);
        Edge.tells("fit: overlap in a corner", told(0, 0, 2, 1, 1, 2), x -> x.fit(4, 4), 1001);
        Edge.tells("fit: one in the midst of another", told(0, 0, 4, 1, 1, 1), x -> x.fit(4, 4), 1001);
        Edge.tells("fit: one round another", told(1, 1, 1, 0, 0, 4), x -> x.fit(4, 4), 1001);
        Edge.tells("fit: touch at a side", told(0, 0, 2, 2, 0, 2), x -> x.fit(4, 4), 3);
        Edge.tells("fit: touch above", told(0, 0, 2, 0, 2, 2), x -> x.fit(4, 4), 3);
        Edge.tells("fit: touch in a corner", told(0, 0, 2, 2, 2, 2), x -> x.fit(4, 4), 3);
        Edge.tells("fit: the least one, then its least later one", told(0, 0, 1, 3, 3, 1, 5, 5, 2, 3, 3, 1, 0, 0, 1),
                x -> x.fit(9, 9), 1004);
        Edge.tells("fit: the least later one of two", told(0, 0, 2, 5, 5, 1, 1, 1, 1, 0, 0, 1), x -> x.fit(9, 9), 1002);
        Edge.tells("fit: the second and the last", told(0, 0, 1, 3, 3, 2, 5, 5, 2, 4, 4, 1), x -> x.fit(9, 9), 1033);
        Edge.tells("fit: the last two of 21", Edge.then(EdgeToldTest::twenty, x -> x.tell(19, 0, 1)),
                x -> x.fit(20, 1), 1000 + 30 * 19 + 20);
        Edge.tells("fit: the first and the last of 21", Edge.then(EdgeToldTest::twenty, x -> x.tell(0, 0, 1)),
                x -> x.fit(20, 1), 1020);
    }

    /** 0 they do; 3 when a part is not covered. */
    private static void fitCovers() {
        Edge.tells("fit: a unit is not covered", told(0, 0, 1, 1, 0, 1, 0, 1, 1), x -> x.fit(2, 2), 3);
        Edge.tells("fit: the unit is covered", told(0, 0, 1, 1, 0, 1, 0, 1, 1, 1, 1, 1), x -> x.fit(2, 2), 0);
        Edge.tells("fit: a part at the right", told(0, 0, 1), x -> x.fit(2, 1), 3);
        Edge.tells("fit: a part above", told(0, 0, 1), x -> x.fit(1, 2), 3);
        Edge.tells("fit: not from the left side on", told(1, 0, 1), x -> x.fit(2, 1), 3);
        Edge.tells("fit: a unit in the midst of a large one", told(0, 0, 999999), x -> x.fit(MOST, MOST), 3);
        // A wheel of four, and the hole in its midst.
        Edge.tells("fit: a hole in the midst", told(0, 0, 2, 3, 0, 2, 3, 3, 2, 0, 3, 2), x -> x.fit(5, 5), 3);
        // The areas are beyond an int: 21 bands of side 47619 are 999999 wide.
        Edge.Made row = () -> {
            SquareTiler x = Nets.blank();
            for (int i = 0; i < 21; i++) {
                x.tell(i * 47619, 0, 47619);
            }
            return x;
        };
        Edge.tells("fit: 21 large ones", row, x -> x.fit(999999, 47619), 0);
        Edge.tells("fit: 21 large ones and a bit", row, x -> x.fit(MOST, 47619), 3);
    }

    /** What stands out is told before what overlaps, and this before what is not covered. */
    private static void fitFirst() {
        Edge.tells("fit: 100 before 1000", told(0, 0, 1, 0, 0, 1, 5, 5, 1), x -> x.fit(2, 2), 102);
        Edge.tells("fit: 1000 before 3", told(0, 0, 1, 0, 0, 1), x -> x.fit(2, 2), 1001);
        Edge.tells("fit: 1000 though as large as the rectangle", told(0, 0, 1, 0, 0, 1), x -> x.fit(2, 1), 1001);
        Edge.tells("fit: 100 though as large as the rectangle", told(0, 0, 1, 2, 0, 1), x -> x.fit(2, 1), 101);
        Edge.tells("fit: 100 before 3", told(0, 0, 1, 2, 0, 1), x -> x.fit(2, 2), 101);
    }

    /** Promise 31: the net becomes the one READ of them (CLAIMS are 0 then): how many knots it has. */
    private static void read() {
        Edge.takes("read() of one square", richTold(0, 0, 1), x -> x.read(1, 1), 2, "battery: 1",
                "knot 0: [0 1] at 0", "knot 1: [1 0] at 0", "no knot 2", "no knot 3", "wire 0: 0-1 plain 0",
                "wire 1: 0-1 battery 0", "no wire 2", "no wire 3", "no wire 4", "no wire 5");
        Edge.takes("read() of the largest square", told(0, 0, MOST), x -> x.read(MOST, MOST), 2, "battery: 1",
                "knot 0: [0 1] at 0", "knot 1: [1 0] at 0", "wire 0: 0-1 plain 0", "wire 1: 0-1 battery 0");
        SquareTiler x = Nets.bundle(22);
        Nets.claimFrom(x, 5, 5);
        x.copy();
        Due.due("read() of 21 squares", x.read(21, 1), 2);
        Due.due("read: 22 wires", x.count(1), 22);
        Due.due("read: the battery is behind them", x.count(3), 21);
        for (int w = 0; w < 22; w++) {
            Due.due("read: claim(" + w + ") is 0", x.claim(w, 1), 0);
            Due.due("read: turn(0, " + w + ")", x.turn(0, w), w);
            Due.due("read: turn(1, " + w + ")", x.turn(1, w), 21 - w);
        }
        Due.due("read: raise(1) is 0", x.raise(1, 1), 0);
        Due.due("read: the told squares stay", x.count(2), 21);
    }

    /** LINES: edges at the same height that touch are one, those that don't are several, by rising LEFT. */
    private static void readLines() {
        // A cross in the midst: four edges that touch in a point.
        Edge.takes("read() of a cross", told(1, 1, 1, 0, 1, 1, 1, 0, 1, 0, 0, 1), x -> x.read(2, 2), 3, "battery: 4",
                "knot 0: [1 0 4] at 0", "knot 1: [3 2 0 1] at 0", "knot 2: [4 2 3] at 0", "wire 0: 0-1 plain 0",
                "wire 1: 0-1 plain 0", "wire 2: 1-2 plain 0", "wire 3: 1-2 plain 0", "wire 4: 0-2 battery 0");
        // Piles at the left and at the right of a large square, the right one told first.
        Edge.takes("read() of lines apart", told(3, 1, 1, 3, 0, 1, 1, 0, 2, 0, 0, 1, 0, 1, 1), x -> x.read(4, 2), 4,
                "battery: 5", "knot 0: [4 2 0 5] at 0", "knot 1: [3 4] at 0", "knot 2: [1 0] at 0",
                "knot 3: [5 1 2 3] at 0", "wire 0: 0-2 plain 0", "wire 1: 2-3 plain 0", "wire 2: 0-3 plain 0",
                "wire 3: 1-3 plain 0", "wire 4: 0-1 plain 0", "wire 5: 0-3 battery 0");
        // The same high up, where heights are above all that is said from left to right.
        Edge.takes("read() of lines apart, high up", told(3, 5, 1, 3, 4, 1, 1, 4, 2, 0, 4, 1, 0, 5, 1, 0, 0, 4),
                x -> x.read(4, 6), 5, "battery: 6", "knot 0: [4 2 0 6] at 0", "knot 1: [3 4] at 0",
                "knot 2: [1 0] at 0", "knot 3: [5 1 2 3] at 0", "knot 4: [6 5] at 0", "wire 0: 0-2 plain 0",
                "wire 1: 2-3 plain 0", "wire 2: 0-3 plain 0", "wire 3: 1-3 plain 0", "wire 4: 0-1 plain 0",
                "wire 5: 3-4 plain 0", "wire 6: 0-4 battery 0");
        // Three piles of two: all middle edges touch, and are one line.
        Edge.takes("read() of a line all through", told(0, 0, 1, 1, 0, 1, 2, 0, 1, 0, 1, 3), x -> x.read(3, 4), 3,
                "battery: 4", "knot 0: [3 4] at 0", "knot 1: [0 1 2 3] at 0", "knot 2: [4 2 1 0] at 0",
                "wire 0: 1-2 plain 0", "wire 1: 1-2 plain 0", "wire 2: 1-2 plain 0", "wire 3: 0-1 plain 0",
                "wire 4: 0-2 battery 0");
        // One square ends where, in a point, another one begins beside it: at the height 2 all is one line.
        Due.due("read() of edges that meet in a point", told(0, 2, 2, 2, 0, 2, 0, 0, 2, 2, 2, 2).make().read(4, 4), 3);
    }

    /** The first knot has the BATTERY behind its squares, the last one ahead of them. */
    private static void readLastAndFirst() {
        SquareTiler x = new SquareTiler();
        Nets.tellPerfect(x);
        x.read(33, 32);
        Due.dueTurn(x, 0, 0, 1, 9);
        Due.dueTurn(x, 5, 9, 8, 6, 4);
        Due.dueTurn(x, 3, 6, 7, 2, 5);
        Due.dueEnds(x, 9, 0, 5);
        Due.due("read: the flow has the sides again", x.current(0), 18);
        Due.due("read: it is laid where it was told", x.square(7, 0), 24);
        Due.due("read: cause()", x.cause(), 0);
    }

    private static Edge.Made pile(int squares) {
        return () -> {
            SquareTiler x = Nets.rich();
            x.hush();
            for (int i = 0; i < squares; i++) {
                x.tell(0, i, 1);
            }
            return x;
        };
    }

    /** NO: there would be more than 12 knots. */
    private static void readKnots() {
        Due.due("read() to 12 knots", pile(11).make().read(1, 11), 12);
        Edge.tells("fit() of what would have 13", pile(12), x -> x.fit(1, 12), 0);
        Edge.refused("read() to 13 knots", pile(12), x -> x.read(1, 12));
        Edge.refused("read() to 22 knots", pile(21), x -> x.read(1, 21));
    }

    /** NO: fit() is not 0 (or NO). */
    private static void readRefused() {
        Edge.refused("read(): a square stands out", richTold(0, 0, 2), x -> x.read(1, 1));
        Edge.refused("read(): the last stands out", richTold(0, 0, 1, 1, 0, 1), x -> x.read(1, 1));
        Edge.refused("read(): two overlap", richTold(0, 0, 1, 0, 0, 1), x -> x.read(1, 1));
        Edge.refused("read(): two overlap, as large as it", richTold(0, 0, 1, 0, 0, 1), x -> x.read(2, 1));
        Edge.refused("read(): a part is not covered", richTold(0, 0, 1), x -> x.read(2, 1));
        Edge.refused("read(): a part is not covered", richTold(0, 0, 1), x -> x.read(1, 2));
        Edge.refused("read(): none is told", Edge.then(Nets::rich, x -> x.hush()), x -> x.read(1, 1));
        for (int bad : new int[] {0, -1, MIN, MOST + 1, MAX}) {
            Edge.refused("read(" + bad + ", 1)", richTold(0, 0, 1), x -> x.read(bad, 1));
            Edge.refused("read(1, " + bad + ")", richTold(0, 0, 1), x -> x.read(1, bad));
        }
    }
}
