/**
 * The boundary cases of promises 1 to 12, each sentence by itself: the last input that is taken, the first one that is
 * refused, and all that the call changes.
 */
public final class EdgeNetTest {
    private static final int MIN = Edge.MIN;
    private static final int MAX = Edge.MAX;

    public static void main(String[] args) {
        aNewObject();
        aNewObjectRefuses();
        knot();
        knotAnew();
        wire();
        wireRefused();
        wireAnew();
        battery();
        cut();
        lay();
        layRefused();
        bare();
        mirror();
        about();
        aboutCounts();
        aboutRefused();
        aboutNotReady();
        clear();
        keep();
        back();
        backUndoes();
        backStaysKept();
        Due.finish("EdgeNetTest");
    }

    /** Promise 1: an empty net, no told squares, nothing kept. */
    private static void aNewObject() {
        Edge.Made made = Nets::blank;
        Edge.tells("new: count(0), no knots", made, x -> x.count(0), 0);
        Edge.tells("new: count(1), no wires", made, x -> x.count(1), 0);
        Edge.tells("new: count(2), no told squares", made, x -> x.count(2), 0);
        Edge.tells("new: count(3), no battery", made, x -> x.count(3), -1);
        Edge.tells("new: battery(-1)", made, x -> x.battery(-1), -1);
        Edge.tells("new: mirror()", made, x -> x.mirror(), 0);
        Edge.tells("new: clear()", made, x -> x.clear(), 0);
        Edge.tells("new: cause()", made, x -> x.cause(), 1);
        Edge.tells("new: faces()", made, x -> x.faces(), 0);
        Edge.tells("new: hush()", made, x -> x.hush(), 0);
        Edge.takes("new: knot()", made, x -> x.knot(), 0, "knot 0: [] at 0");
        Edge.takes("new: tell()", made, x -> x.tell(0, 0, 1), 1, "told: 1", "told 0: 0 0 1");
        Edge.takes("new: keep()", made, x -> x.keep(), 0, "kept: 0 wires", "kept battery: -1");
    }

    private static void aNewObjectRefuses() {
        Edge.Made made = Nets::blank;
        Edge.refused("new: back(), nothing is kept", made, x -> x.back());
        Edge.refused("new: wire(0, 1)", made, x -> x.wire(0, 1));
        Edge.refused("new: battery(0)", made, x -> x.battery(0));
        Edge.refused("new: cut(0, true)", made, x -> x.cut(0, true));
        Edge.refused("new: lay(0, 0)", made, x -> x.lay(0, 0));
        Edge.refused("new: bare(0)", made, x -> x.bare(0));
        Edge.refused("new: about()", made, x -> x.about());
        Edge.refused("new: of(0, 0)", made, x -> x.of(0, 0));
        Edge.refused("new: turn(0, 0)", made, x -> x.turn(0, 0));
        Edge.refused("new: face(0)", made, x -> x.face(0));
        Edge.refused("new: trees()", made, x -> x.trees());
        Edge.refused("new: alter(0, 0, 0)", made, x -> x.alter(0, 0, 0));
        Edge.refused("new: copy()", made, x -> x.copy());
        Edge.refused("new: fit(1, 1)", made, x -> x.fit(1, 1));
        Edge.refused("new: read(1, 1)", made, x -> x.read(1, 1));
        Edge.refused("new: claim(0, 0)", made, x -> x.claim(0, 0));
        Edge.refused("new: raise(0, 0)", made, x -> x.raise(0, 0));
        Edge.refused("new: grant()", made, x -> x.grant());
        Edge.refused("new: judge()", made, x -> x.judge());
    }

    /** Promise 2: a knot more, with an empty TURN: its number. NO: there are 12. */
    private static void knot() {
        Edge.takes("knot() behind four", Nets::rich, x -> x.knot(), 4, "knot 4: [] at 0");
        Edge.takes("knot() the 12th", () -> Nets.lone(11), x -> x.knot(), 11, "knot 11: [] at 0");
        Edge.refused("knot() the 13th", () -> Nets.lone(12), x -> x.knot());
        Edge.refused("knot() the 13th of a full net", Nets::brimful, x -> x.knot());
    }

    /** A new knot has nothing of one that had its number before. */
    private static void knotAnew() {
        Edge.Made cleared = Edge.then(Nets::brimful, x -> x.clear());
        for (int k = 0; k < 12; k++) {
            Edge.takes("knot() behind clear()", cleared, x -> x.knot(), k, "knot " + k + ": [] at 0");
            cleared = Edge.then(cleared, x -> x.knot());
        }
        Edge.takes("knot() behind read()", Edge.then(EdgeNetTest::brimfulForOne, x -> x.read(1, 1)), x -> x.knot(), 2,
                "knot 2: [] at 0");
        Edge.takes("knot() behind about()", Edge.then(EdgeNetTest::claimedChain, x -> x.about()), x -> x.knot(), 2,
                "knot 2: [] at 0");
        Edge.takes("knot() behind back()", Edge.then(EdgeNetTest::fullOverOneKept, x -> x.back()), x -> x.knot(), 2,
                "knot 2: [] at 0");
    }

    /** All rows are full, but a single square is told. */
    private static SquareTiler brimfulForOne() {
        SquareTiler x = Nets.brimful();
        x.cut(2, true);
        x.hush();
        x.tell(0, 0, 1);
        return x;
    }

    private static SquareTiler claimedChain() {
        SquareTiler x = Nets.chain(12);
        Nets.claimFrom(x, 10, 30);
        return x;
    }

    /** Two knots and a wire are kept, and then a larger net is drawn over them. */
    private static SquareTiler fullOverOneKept() {
        SquareTiler x = Nets.lone(2);
        x.wire(1, 0);
        x.keep();
        x.clear();
        for (int k = 0; k < 12; k++) {
            x.knot();
        }
        for (int w = 0; w < 22; w++) {
            x.wire(w % 12, (w + 1) % 12);
            x.lay(w % 12, w);
            x.cut(w, true);
        }
        Nets.claimFrom(x, 50, 80);
        return x;
    }

    /** Promise 3: a wire more (it is in no TURN): its number. */
    private static void wire() {
        Edge.takes("wire(0, 3)", Nets::rich, x -> x.wire(0, 3), 6, "wire 6: 0-3 plain 0");
        Edge.takes("wire(3, 0), from the last knot", Nets::rich, x -> x.wire(3, 0), 6, "wire 6: 3-0 plain 0");
        Edge.takes("wire(2, 3), between the last ones", Nets::rich, x -> x.wire(2, 3), 6, "wire 6: 2-3 plain 0");
        Edge.takes("wire() the first one", () -> Nets.lone(2), x -> x.wire(1, 0), 0, "wire 0: 1-0 plain 0");
        Edge.takes("wire(0, 11) of twelve knots", () -> Nets.lone(12), x -> x.wire(0, 11), 0, "wire 0: 0-11 plain 0");
        Edge.takes("wire() the 22nd", () -> Nets.bundle(21), x -> x.wire(0, 1), 21, "wire 21: 0-1 plain 0");
    }

    /** NO: a or b is no knot, they are the same, or there are 22. */
    private static void wireRefused() {
        for (int k : new int[] {-1, 4, MIN, MAX, 12}) {
            Edge.refused("wire(" + k + ", 0), a is no knot", Nets::rich, x -> x.wire(k, 0));
            Edge.refused("wire(0, " + k + "), b is no knot", Nets::rich, x -> x.wire(0, k));
            Edge.refused("wire(" + k + ", " + k + "), both are none", Nets::rich, x -> x.wire(k, k));
        }
        for (int k = 0; k < 4; k++) {
            int same = k;
            Edge.refused("wire(" + k + ", " + k + "), the same", Nets::rich, x -> x.wire(same, same));
        }
        Edge.refused("wire(0, 1) with one knot", () -> Nets.lone(1), x -> x.wire(0, 1));
        Edge.refused("wire(1, 0) with one knot", () -> Nets.lone(1), x -> x.wire(1, 0));
        Edge.refused("wire(0, 0) with one knot", () -> Nets.lone(1), x -> x.wire(0, 0));
        Edge.refused("wire(12, 0) of twelve knots", () -> Nets.lone(12), x -> x.wire(12, 0));
        Edge.refused("wire(0, 12) of twelve knots", () -> Nets.lone(12), x -> x.wire(0, 12));
        Edge.refused("wire() the 23rd", () -> Nets.bundle(22), x -> x.wire(0, 1));
        Edge.refused("wire() the 23rd of a full net", Nets::brimful, x -> x.wire(11, 0));
    }

    /** A new wire has nothing of one that had its number before. */
    private static void wireAnew() {
        Edge.Made cleared = Edge.then(Edge.then(EdgeNetTest::fullOverOneKept, x -> x.clear()), x -> x.knot());
        Edge.takes("wire() behind clear()", Edge.then(cleared, x -> x.knot()), x -> x.wire(0, 1), 0,
                "wire 0: 0-1 plain 0");
        Edge.takes("wire() behind read()", Edge.then(EdgeNetTest::brimfulForOne, x -> x.read(1, 1)),
                x -> x.wire(1, 0), 2, "wire 2: 1-0 plain 0");
        Edge.takes("wire() behind back()", Edge.then(EdgeNetTest::fullOverOneKept, x -> x.back()),
                x -> x.wire(0, 1), 1, "wire 1: 0-1 plain 0");
    }

    /** Promise 4: the BATTERY is a wire (which is not CUT then), or none (-1): which it was. NO: no such wire. */
    private static void battery() {
        Edge.Made none = Edge.then(Nets::rich, x -> x.battery(-1));
        Edge.takes("battery(-1)", Nets::rich, x -> x.battery(-1), 5, "battery: -1", "wire 5: 0-3 plain 15");
        Edge.tells("battery(-1) when there is none", none, x -> x.battery(-1), -1);
        Edge.takes("battery(5) when there is none", none, x -> x.battery(5), -1, "battery: 5",
                "wire 5: 0-3 battery 15");
        Edge.tells("battery(5) that it is", Nets::rich, x -> x.battery(5), 5);
        Edge.takes("battery(0) which is cut", Nets::rich, x -> x.battery(0), 5, "battery: 0", "wire 0: 0-1 battery 10",
                "wire 5: 0-3 plain 15");
        Edge.takes("battery(1) that was cut before", Edge.then(Nets::rich, x -> x.battery(0)), x -> x.battery(1), 0,
                "battery: 1", "wire 0: 0-1 plain 10", "wire 1: 0-2 battery 11");
        Edge.takes("battery(21), the last wire", Nets::brimful, x -> x.battery(21), 0, "battery: 21",
                "wire 0: 0-11 plain 300", "wire 21: 10-11 battery 321");
        for (int w : new int[] {-2, 6, 22, MIN, MAX, Edge.NO}) {
            Edge.refused("battery(" + w + ")", Nets::rich, x -> x.battery(w));
            Edge.refused("battery(" + w + ") when there is none", none, x -> x.battery(w));
        }
        Edge.refused("battery(22) of a full net", Nets::brimful, x -> x.battery(22));
    }

    /** Promise 5: a wire is CUT, or not: 1 if it was, else 0. NO: no such wire, or it is the BATTERY. */
    private static void cut() {
        Edge.takes("cut(4, true), the last one", Nets::rich, x -> x.cut(4, true), 0, "wire 4: 2-3 cut 14");
        Edge.tells("cut(4, false) that is not", Nets::rich, x -> x.cut(4, false), 0);
        Edge.tells("cut(0, true) that is", Nets::rich, x -> x.cut(0, true), 1);
        Edge.takes("cut(0, false) that is", Nets::rich, x -> x.cut(0, false), 1, "wire 0: 0-1 plain 10");
        Edge.takes("cut(21, true) of a full net", Nets::brimful, x -> x.cut(21, true), 0, "wire 21: 10-11 cut 321");
        Edge.takes("cut(5, true) that was the battery", Edge.then(Nets::rich, x -> x.battery(-1)),
                x -> x.cut(5, true), 0, "wire 5: 0-3 cut 15");
        for (boolean is : new boolean[] {true, false}) {
            Edge.refused("cut(5, " + is + "), the battery", Nets::rich, x -> x.cut(5, is));
            Edge.refused("cut(0, " + is + "), the battery", Nets::brimful, x -> x.cut(0, is));
            for (int w : new int[] {-1, 6, 22, MIN, MAX}) {
                Edge.refused("cut(" + w + ", " + is + ")", Nets::rich, x -> x.cut(w, is));
            }
            Edge.refused("cut(22, " + is + ") of a full net", Nets::brimful, x -> x.cut(22, is));
            Edge.refused("cut(-1, " + is + ") without a battery", Edge.then(Nets::rich, x -> x.battery(-1)),
                    x -> x.cut(-1, is));
        }
    }

    /** Promise 6: a wire comes behind those in the TURN of a knot: how many it has. */
    private static void lay() {
        Edge.Made bared = Edge.then(Nets::rich, x -> x.bare(3));
        Edge.Made longer = Edge.then(Nets::rich, x -> x.wire(3, 0));
        Edge.takes("lay(3, 5) in an empty turn, at its second end", bared, x -> x.lay(3, 5), 1, "knot 3: [5] at 23");
        Edge.takes("lay(0, 6) behind three, at its second end", longer, x -> x.lay(0, 6), 4, "knot 0: [5 0 1 6] at 20");
        Edge.takes("lay(3, 6) behind three, at its first end", longer, x -> x.lay(3, 6), 4, "knot 3: [4 3 5 6] at 23");
        Edge.takes("lay(3, 6) that is in the turn of its other end", Edge.then(longer, x -> x.lay(0, 6)),
                x -> x.lay(3, 6), 4, "knot 3: [4 3 5 6] at 23");
        Edge.takes("lay(3, 3), a lesser wire behind a greater one", Edge.then(bared, x -> x.lay(3, 5)),
                x -> x.lay(3, 3), 2, "knot 3: [5 3] at 23");
        Edge.takes("lay(11, 21), last knot and last wire", Edge.then(Nets::brimful, x -> x.bare(11)),
                x -> x.lay(11, 21), 1, "knot 11: [21] at 411");
        Edge.takes("lay(1, 21), the 22nd", EdgeNetTest::turnOf21, x -> x.lay(1, 21), 22,
                "knot 1: [0 1 2 3 4 5 6 7 8 9 10 11 12 13 14 15 16 17 18 19 20 21] at 0");
    }

    /** Wires 0 to 20 are in the turn of knot 1, the last wire is not. */
    private static SquareTiler turnOf21() {
        SquareTiler x = Nets.bundle(22);
        x.bare(1);
        for (int w = 0; w < 21; w++) {
            x.lay(1, w);
        }
        return x;
    }

    /** NO: there is no such knot or wire, the wire does not end there, or is in it. */
    private static void layRefused() {
        Edge.Made bared = Edge.then(Nets::rich, x -> x.bare(3));
        for (int k : new int[] {-1, 4, 12, MIN, MAX}) {
            Edge.refused("lay(" + k + ", 0), no such knot", Nets::rich, x -> x.lay(k, 0));
        }
        for (int w : new int[] {-1, 6, 22, MIN, MAX}) {
            Edge.refused("lay(3, " + w + "), no such wire", bared, x -> x.lay(3, w));
        }
        for (int w = 0; w < 3; w++) {
            int strange = w;
            Edge.refused("lay(3, " + w + ") that does not end there", bared, x -> x.lay(3, strange));
        }
        for (int w : new int[] {5, 0, 1}) {
            Edge.refused("lay(0, " + w + ") that is in it", Nets::rich, x -> x.lay(0, w));
        }
        Edge.refused("lay(3, 5) that is the only one in it", Edge.then(bared, x -> x.lay(3, 5)), x -> x.lay(3, 5));
        Edge.refused("lay(12, 0) of twelve knots", Nets::brimful, x -> x.lay(12, 0));
        Edge.refused("lay(0, 22) of 22 wires", Nets::brimful, x -> x.lay(0, 22));
        Edge.refused("lay(1, 0), the first of 22", () -> Nets.bundle(22), x -> x.lay(1, 0));
        Edge.refused("lay(1, 21), the last of 22", () -> Nets.bundle(22), x -> x.lay(1, 21));
    }

    /** Promise 7: the TURN of a knot is empty: how many it had. NO: there is no such knot. */
    private static void bare() {
        Edge.takes("bare(0), the first knot", Nets::rich, x -> x.bare(0), 3, "knot 0: [] at 20");
        Edge.takes("bare(3), the last knot", Nets::rich, x -> x.bare(3), 3, "knot 3: [] at 23");
        Edge.takes("bare(11) of twelve", Nets::brimful, x -> x.bare(11), 2, "knot 11: [] at 411");
        Edge.takes("bare(1) of a turn of 22", () -> Nets.bundle(22), x -> x.bare(1), 22, "knot 1: [] at 0");
        Edge.tells("bare(0) of an empty turn", Edge.then(Nets::rich, x -> x.bare(0)), x -> x.bare(0), 0);
        Edge.tells("bare(0) of a new knot", () -> Nets.lone(1), x -> x.bare(0), 0);
        for (int k : new int[] {-1, 4, 12, MIN, MAX}) {
            Edge.refused("bare(" + k + ")", Nets::rich, x -> x.bare(k));
        }
        Edge.refused("bare(12) of twelve", Nets::brimful, x -> x.bare(12));
    }

    /** Promise 8: all TURNS are turned round (the last wire comes first): how many knots there are. */
    private static void mirror() {
        Edge.takes("mirror()", Nets::rich, x -> x.mirror(), 4, "knot 0: [1 0 5] at 20", "knot 1: [3 0 2] at 21",
                "knot 2: [4 2 1] at 22", "knot 3: [5 3 4] at 23");
        Edge.takes("mirror() behind mirror()", Edge.then(Nets::rich, x -> x.mirror()), x -> x.mirror(), 4,
                "knot 0: [5 0 1] at 20", "knot 1: [2 0 3] at 21", "knot 2: [1 2 4] at 22", "knot 3: [4 3 5] at 23");
        Edge.tells("mirror() of empty turns", () -> Nets.lone(12), x -> x.mirror(), 12);
        Edge.tells("mirror() of turns of one", () -> Nets.bundle(1), x -> x.mirror(), 2);
        Edge.takes("mirror() of turns of two", () -> Nets.bundle(2), x -> x.mirror(), 2, "knot 0: [1 0] at 0",
                "knot 1: [0 1] at 0");
        Edge.takes("mirror() of turns of four", () -> Nets.bundle(4), x -> x.mirror(), 2, "knot 0: [3 2 1 0] at 0",
                "knot 1: [0 1 2 3] at 0");
        Edge.takes("mirror() of turns that are not whole", Edge.then(Nets::rich, x -> x.bare(0)), x -> x.mirror(), 4,
                "knot 1: [3 0 2] at 21", "knot 2: [4 2 1] at 22", "knot 3: [5 3 4] at 23");
        Edge.takes("mirror() of turns of 22", () -> Nets.bundle(22), x -> x.mirror(), 2,
                "knot 0: [21 20 19 18 17 16 15 14 13 12 11 10 9 8 7 6 5 4 3 2 1 0] at 0",
                "knot 1: [0 1 2 3 4 5 6 7 8 9 10 11 12 13 14 15 16 17 18 19 20 21] at 0");
    }

    /** Promise 9: faces become knots, the TURN goes against the darts from the least one; CLAIMS are 0 then. */
    private static void about() {
        Edge.takes("about()", Nets::whole, x -> x.about(), 4, "wire 0: 0-1 plain 0", "wire 1: 1-2 plain 0",
                "wire 2: 3-1 plain 0", "wire 3: 0-3 plain 0", "wire 4: 3-2 plain 0", "wire 5: 2-0 battery 0",
                "knot 0: [0 5 3] at 0", "knot 1: [0 2 1] at 0", "knot 2: [1 4 5] at 0", "knot 3: [2 3 4] at 0");
        // Two wires, one of them the battery: the least net that is ready, and it has a face on each side.
        Edge.takes("about() of two wires", () -> Nets.bundle(2), x -> x.about(), 2, "wire 1: 1-0 battery 0",
                "knot 1: [0 1] at 0");
        // A ring of four darts, so that a turn against the darts is unlike one along them.
        Edge.takes("about() of a chain", () -> Nets.chain(4), x -> x.about(), 2, "no knot 2", "no knot 3",
                "knot 0: [0 1 2 3] at 0", "knot 1: [0 3 2 1] at 0", "wire 0: 0-1 battery 0", "wire 1: 1-0 plain 0",
                "wire 2: 1-0 plain 0", "wire 3: 1-0 plain 0");
    }

    /** NO: there would be more than 12. */
    private static void aboutCounts() {
        Due.due("about() to 12 knots", Nets.bundle(12).about(), 12);
        Edge.refused("about() to 13 knots", () -> Nets.bundle(13), x -> x.about());
        Edge.refused("about() to 22 knots", () -> Nets.bundle(22), x -> x.about());
        Due.due("about() from 12 knots to 2", Nets.chain(12).about(), 2);
        Due.due("about() of 12 knots and 22 wires", Nets.full().about(), 12);
        SquareTiler x = Nets.brimful();
        x.about();
        for (int w = 0; w < 22; w++) {
            Due.due("about: claim(" + w + ") is 0", x.claim(w, 1), 0);
        }
        for (int k = 0; k < 12; k++) {
            Due.due("about: raise(" + k + ") is 0", x.raise(k, 1), 0);
        }
        Due.due("about: the told squares stay", x.count(2), 21);
        Due.due("about: what is kept stays", x.back(), 22);
        Due.due("about: what is kept has its claims", x.claim(21, 0), 121);
    }

    /** NO: a wire is CUT, or a wire has the same face on both sides: be it the first one or the last one. */
    private static void aboutRefused() {
        Due.due("about: ready with wire 0 cut", Nets.rich().cause(), 0);
        Edge.refused("about() with the first wire cut", Nets::rich, x -> x.about());
        Edge.Made lastCut = Edge.then(Nets::whole, x -> x.cut(4, true));
        Due.due("about: ready with wire 4 cut", lastCut.make().cause(), 0);
        Edge.refused("about() with the last wire cut", lastCut, x -> x.about());
        Edge.Made fullCut = Edge.then(Nets::brimful, x -> x.cut(20, true));
        Due.due("about: ready with wire 20 cut", fullCut.make().cause(), 0);
        Edge.refused("about() of a full net with a cut wire", fullCut, x -> x.about());
        Edge.Made looseLast = () -> Nets.withLooseEnd(Nets.whole(), 3);
        Due.due("about: ready with a loose end last", looseLast.make().cause(), 0);
        Edge.refused("about() with the last wire in one face", looseLast, x -> x.about());
        Due.due("about: ready with a loose end first", looseFirst().cause(), 0);
        Edge.refused("about() with the first wire in one face", EdgeNetTest::looseFirst, x -> x.about());
    }

    /** Wire 0 hangs knot 2 on; wires 1 and 2 are a ring, of which the last is the battery. */
    private static SquareTiler looseFirst() {
        SquareTiler x = Nets.lone(3);
        x.wire(2, 0);
        x.wire(0, 1);
        x.wire(0, 1);
        x.battery(2);
        Nets.layRow(x, 0, 0, 1, 2);
        Nets.layRow(x, 1, 2, 1);
        Nets.layRow(x, 2, 0);
        return x;
    }

    /** NO: the net is not READY, by each cause. No wire is cut in these, and only cause 4 has one in a single face. */
    private static void aboutNotReady() {
        Edge.Made[] made = {
            Edge.then(() -> Nets.bundle(3), x -> x.battery(-1)),
            Edge.then(() -> Nets.bundle(3), x -> x.wire(0, 1)),
            () -> Nets.withRing(Nets.bundle(3)),
            Edge.then(() -> Nets.withLooseEnd(Nets.bundle(3), 0), x -> x.battery(3)),
            Nets::twisted};
        for (int c = 1; c <= 5; c++) {
            Due.due("about: cause " + c, made[c - 1].make().cause(), c);
            Edge.refused("about() with cause " + c, made[c - 1], x -> x.about());
        }
    }

    /** Promise 10: an empty net: how many wires it had. Told squares and what is kept are no part of it. */
    private static void clear() {
        Edge.takes("clear()", Nets::rich, x -> x.clear(), 6, "battery: -1", "no knot 0", "no knot 1", "no knot 2",
                "no knot 3", "no wire 0", "no wire 1", "no wire 2", "no wire 3", "no wire 4", "no wire 5");
        Edge.takes("clear() of knots alone", () -> Nets.lone(1), x -> x.clear(), 0, "no knot 0");
        Edge.tells("clear() of an empty net", Edge.then(Nets::rich, x -> x.clear()), x -> x.clear(), 0);
        Due.due("clear() of 22 wires", Nets.brimful().clear(), 22);
        // CLAIMS are 0: those of the numbers that come again too.
        Edge.takes("clear() and a knot", Edge.then(Nets::brimful, x -> x.clear()), x -> x.knot(), 0, "knot 0: [] at 0");
    }

    /** Promise 11: the net is kept, with CLAIMS: how many wires. */
    private static void keep() {
        Edge.takes("keep() over another one", Nets::rich, x -> x.keep(), 6, "kept: 6 wires", "kept battery: 5",
                "kept knot 0: [5 0 1] at 20", "kept knot 1: [2 0 3] at 21", "kept knot 2: [1 2 4] at 22",
                "kept knot 3: [4 3 5] at 23", "kept wire 0: 0-1 cut 10", "kept wire 1: 0-2 plain 11",
                "kept wire 2: 1-2 plain 12", "kept wire 3: 1-3 plain 13", "kept wire 4: 2-3 plain 14",
                "kept wire 5: 0-3 battery 15");
        Edge.takes("keep() for the first time", () -> Nets.lone(2), x -> x.keep(), 0, "kept: 0 wires",
                "kept battery: -1", "kept knot 0: [] at 0", "kept knot 1: [] at 0");
        Edge.takes("keep() of an empty net over another one", Edge.then(Nets::rich, x -> x.clear()), x -> x.keep(), 0,
                "kept: 0 wires", "kept battery: -1", "no kept knot 0", "no kept knot 1", "no kept wire 0",
                "no kept wire 1", "no kept wire 2");
        Edge.tells("keep() again", Edge.then(Nets::rich, x -> x.keep()), x -> x.keep(), 6);
        Due.due("keep() of 22 wires", Nets.brimful().keep(), 22);
    }

    /** Promise 12: the net that was kept is there again, with its CLAIMS: how many wires. NO: none was. */
    private static void back() {
        Edge.refused("back() when nothing is kept", Nets::bridge, x -> x.back());
        Edge.refused("back() when nothing is kept, of a full net", Nets::full, x -> x.back());
        Edge.refused("back() when nothing is kept, of an empty net", Edge.then(Nets::bridge, x -> x.clear()),
                x -> x.back());
        Edge.takes("back()", Nets::rich, x -> x.back(), 3, "battery: 2", "knot 0: [0 1 2] at 0", "knot 1: [2 1 0] at 8",
                "no knot 2", "no knot 3", "wire 0: 0-1 cut 7", "wire 1: 0-1 plain 0", "wire 2: 0-1 battery 0",
                "no wire 3", "no wire 4", "no wire 5");
        Edge.tells("back() again", Edge.then(Nets::rich, x -> x.back()), x -> x.back(), 3);
        Edge.Made keptEmpty = Edge.then(Nets::blank, x -> x.keep());
        Edge.tells("back() to an empty net that is kept", keptEmpty, x -> x.back(), 0);
        Edge.takes("back() to an empty net from a knot", Edge.then(keptEmpty, x -> x.knot()), x -> x.back(), 0,
                "no knot 0");
        Due.due("back() to 22 wires", Nets.brimful().back(), 22);
        SquareTiler x = Nets.brimful();
        x.clear();
        Due.due("back() from an empty net", x.back(), 22);
        Due.due("back: the last knot's claim", x.raise(11, 0), 211);
        Due.due("back: the last wire's claim", x.claim(21, 0), 121);
        Due.due("back: the last turn", x.turn(11, 1), 0);
    }

    /** Turns that were turned round since, or rows that were emptied, are as they were kept. */
    private static void backUndoes() {
        Edge.Call turnAndBack = x -> {
            x.mirror();
            return x.back();
        };
        Edge.tells("back() behind mirror()", Edge.then(Nets::rich, x -> x.keep()), turnAndBack, 6);
        Edge.tells("back() behind mirror() of twelve knots", Edge.then(Nets::brimful, x -> x.keep()), turnAndBack, 22);
        Edge.tells("back() behind clear()", Edge.then(Nets::rich, x -> x.keep()), x -> {
            x.clear();
            return x.back();
        }, 6);
    }

    /** (it stays kept): what is done to the net since is not done to the one that is kept. */
    private static void backStaysKept() {
        Edge.Made there = Edge.then(Nets::rich, x -> x.back());
        Edge.takes("back, then knot()", there, x -> x.knot(), 2, "knot 2: [] at 0");
        Edge.takes("back, then wire()", there, x -> x.wire(1, 0), 3, "wire 3: 1-0 plain 0");
        Edge.takes("back, then cut()", there, x -> x.cut(0, false), 1, "wire 0: 0-1 plain 7");
        Edge.takes("back, then bare()", there, x -> x.bare(1), 3, "knot 1: [] at 8");
        Edge.takes("back, then claim()", there, x -> x.claim(2, 9), 0, "wire 2: 0-1 battery 9");
        Edge.takes("back, then raise()", there, x -> x.raise(0, 9), 0, "knot 0: [0 1 2] at 9");
        Edge.takes("back, then battery()", there, x -> x.battery(-1), 2, "battery: -1", "wire 2: 0-1 plain 0");
        Edge.takes("back, then mirror()", there, x -> x.mirror(), 2, "knot 0: [2 1 0] at 0", "knot 1: [0 1 2] at 8");
        Edge.takes("back, then clear()", there, x -> x.clear(), 3, "battery: -1", "no knot 0", "no knot 1",
                "no wire 0", "no wire 1", "no wire 2");
    }
}
