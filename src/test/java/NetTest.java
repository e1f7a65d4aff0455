/** Promises 1 to 12: the net is drawn, changed, kept and brought back. */
public final class NetTest {
    private static final int NO = SquareTiler.NO;

    public static void main(String[] args) {
        aNewObject();
        knot();
        wire();
        battery();
        cut();
        lay();
        bare();
        mirror();
        about();
        aboutRefused();
        clear();
        keepAndBack();
        Due.finish("NetTest");
    }

    private static void due(String call, long got, long want) {
        Due.due(call, got, want);
    }

    private static void aNewObject() {
        SquareTiler x = new SquareTiler();
        due("new: NO", NO, -2000000000);
        due("new: count(0)", x.count(0), 0);
        due("new: count(1)", x.count(1), 0);
        due("new: count(2)", x.count(2), 0);
        due("new: count(3)", x.count(3), -1);
        due("new: back()", x.back(), NO);
        due("new: hush()", x.hush(), 0);
        due("new: clear()", x.clear(), 0);
        due("new: mirror()", x.mirror(), 0);
        due("new: cause()", x.cause(), 1);
        SquareTiler y = new SquareTiler();
        x.knot();
        x.tell(0, 0, 1);
        x.keep();
        due("new: objects share nothing", y.count(0), 0);
        due("new: objects share no told squares", y.count(2), 0);
        due("new: objects share nothing kept", y.back(), NO);
    }

    private static void knot() {
        SquareTiler x = new SquareTiler();
        for (int k = 0; k < 12; k++) {
            due("knot()", x.knot(), k);
            due("knot: turn", x.turn(k, 0), -1);
        }
        due("knot() the 13th", x.knot(), NO);
        due("knot: count(0)", x.count(0), 12);
        SquareTiler used = Nets.bridge();
        used.raise(0, 7);
        used.clear();
        due("knot() anew", used.knot(), 0);
        due("knot() anew: turn", used.turn(0, 0), -1);
        due("knot() anew: claim", used.raise(0, 0), 0);
    }

    private static void wire() {
        SquareTiler x = new SquareTiler();
        due("wire(0, 1) without knots", x.wire(0, 1), NO);
        x.knot();
        due("wire(0, 1) with one knot", x.wire(0, 1), NO);
        due("wire(1, 0) with one knot", x.wire(1, 0), NO);
        x.knot();
        due("wire(-1, 0)", x.wire(-1, 0), NO);
        due("wire(0, -1)", x.wire(0, -1), NO);
        due("wire(2, 0)", x.wire(2, 0), NO);
        due("wire(0, 2)", x.wire(0, 2), NO);
        due("wire(1, 1)", x.wire(1, 1), NO);
        due("wire(min, max)", x.wire(Integer.MIN_VALUE, Integer.MAX_VALUE), NO);
        due("wire: count(1)", x.count(1), 0);
        for (int w = 0; w < 22; w++) {
            due("wire()", w % 2 == 0 ? x.wire(0, 1) : x.wire(1, 0), w);
            due("wire: first end", x.of(w, 0), w % 2);
            due("wire: second end", x.of(w, 1), 1 - w % 2);
            due("wire: plain", x.of(w, 2), 0);
        }
        due("wire() the 23rd", x.wire(0, 1), NO);
        due("wire: count(1)", x.count(1), 22);
        due("wire: in no turn", x.turn(0, 0), -1);
        SquareTiler used = Nets.bridge();
        used.cut(0, true);
        used.claim(0, 7);
        used.clear();
        used.knot();
        used.knot();
        due("wire() anew", used.wire(0, 1), 0);
        due("wire() anew: not cut", used.of(0, 2), 0);
        due("wire() anew: claim", used.claim(0, 0), 0);
    }

    private static void battery() {
        SquareTiler x = Nets.bridge();
        due("battery(0)", x.battery(0), 5);
        due("battery: count(3)", x.count(3), 0);
        due("battery: of(0, 2)", x.of(0, 2), 2);
        due("battery: of(5, 2)", x.of(5, 2), 0);
        due("battery(6)", x.battery(6), NO);
        due("battery(-2)", x.battery(-2), NO);
        due("battery(NO)", x.battery(NO), NO);
        due("battery: unchanged", x.count(3), 0);
        due("battery(0) again", x.battery(0), 0);
        x.cut(3, true);
        due("battery(3) of a cut wire", x.battery(3), 0);
        due("battery: of(3, 2)", x.of(3, 2), 2);
        due("battery(-1)", x.battery(-1), 3);
        due("battery: no longer cut", x.of(3, 2), 0);
        due("battery: count(3)", x.count(3), -1);
        due("battery(-1) again", x.battery(-1), -1);
        x.cut(3, true);
        due("battery(6) refused", x.battery(6), NO);
        due("battery: still cut", x.of(3, 2), 1);
        due("battery(-1) leaves cuts", x.battery(-1), -1);
        due("battery: still cut", x.of(3, 2), 1);
    }

    private static void cut() {
        SquareTiler x = Nets.bridge();
        due("cut(0, true)", x.cut(0, true), 0);
        due("cut: of(0, 2)", x.of(0, 2), 1);
        due("cut(0, true) again", x.cut(0, true), 1);
        due("cut(0, false)", x.cut(0, false), 1);
        due("cut: of(0, 2)", x.of(0, 2), 0);
        due("cut(0, false) again", x.cut(0, false), 0);
        due("cut the battery", x.cut(5, true), NO);
        due("cut the battery", x.cut(5, false), NO);
        due("cut: of(5, 2)", x.of(5, 2), 2);
        due("cut(-1, true)", x.cut(-1, true), NO);
        due("cut(6, true)", x.cut(6, true), NO);
        due("cut(max, true)", x.cut(Integer.MAX_VALUE, true), NO);
        x.battery(-1);
        due("cut(5, true) when it is no battery", x.cut(5, true), 0);
        due("cut: of(5, 2)", x.of(5, 2), 1);
    }

    private static void lay() {
        SquareTiler x = Nets.bridgeWithoutTurns();
        due("lay(0, 1)", x.lay(0, 1), 1);
        due("lay(0, 1) again", x.lay(0, 1), NO);
        due("lay(0, 5)", x.lay(0, 5), 2);
        due("lay(0, 5) again", x.lay(0, 5), NO);
        due("lay(0, 1) again", x.lay(0, 1), NO);
        due("lay(0, 2) that doesn't end there", x.lay(0, 2), NO);
        due("lay(0, 3) that doesn't end there", x.lay(0, 3), NO);
        due("lay(-1, 0)", x.lay(-1, 0), NO);
        due("lay(4, 0)", x.lay(4, 0), NO);
        due("lay(0, -1)", x.lay(0, -1), NO);
        due("lay(0, 6)", x.lay(0, 6), NO);
        due("lay: turn(0, 0)", x.turn(0, 0), 1);
        due("lay: turn(0, 1)", x.turn(0, 1), 5);
        due("lay: turn(0, 2)", x.turn(0, 2), -1);
        due("lay(3, 5) at the second end", x.lay(3, 5), 1);
        due("lay: turn(3, 0)", x.turn(3, 0), 5);
        SquareTiler y = new SquareTiler();
        y.knot();
        y.knot();
        for (int w = 0; w < 22; w++) {
            y.wire(0, 1);
            due("lay of 22", y.lay(0, w), w + 1);
        }
        due("lay of 22: the last", y.turn(0, 21), 21);
        due("lay of 22: behind the last", y.turn(0, 22), -1);
    }

    private static void bare() {
        SquareTiler x = Nets.bridge();
        due("bare(1)", x.bare(1), 3);
        due("bare(1) again", x.bare(1), 0);
        due("bare: turn(1, 0)", x.turn(1, 0), -1);
        due("bare: others stay", x.turn(0, 2), 1);
        due("bare(-1)", x.bare(-1), NO);
        due("bare(4)", x.bare(4), NO);
        due("bare: lay again", x.lay(1, 3), 1);
        due("bare: turn(1, 0)", x.turn(1, 0), 3);
    }

    private static void mirror() {
        SquareTiler x = Nets.bridge();
        x.bare(3);
        Nets.layRow(x, 3, 4, 3);
        due("mirror()", x.mirror(), 4);
        Due.dueTurn(x, 0, 1, 0, 5);
        Due.dueTurn(x, 1, 3, 0, 2);
        Due.dueTurn(x, 2, 4, 2, 1);
        Due.dueTurn(x, 3, 3, 4);
        due("mirror() again", x.mirror(), 4);
        Due.dueTurn(x, 0, 5, 0, 1);
        Due.dueTurn(x, 3, 4, 3);
        SquareTiler y = Nets.bridge();
        y.cut(0, true);
        due("mirror: before, left of wire 4", y.square(4, 0), 1);
        y.mirror();
        due("mirror: left of wire 4", y.square(4, 0), 0);
        due("mirror: left of wire 3", y.square(3, 0), 2);
        due("mirror: low of wire 2", y.square(2, 1), 1);
    }

    private static void about() {
        SquareTiler x = Nets.bridge();
        x.grant();
        due("about()", x.about(), 4);
        due("about: count(0)", x.count(0), 4);
        due("about: count(1)", x.count(1), 6);
        due("about: count(3)", x.count(3), 5);
        Due.dueEnds(x, 0, 0, 1);
        Due.dueEnds(x, 1, 1, 2);
        Due.dueEnds(x, 2, 3, 1);
        Due.dueEnds(x, 3, 0, 3);
        Due.dueEnds(x, 4, 3, 2);
        Due.dueEnds(x, 5, 2, 0);
        Due.dueTurn(x, 0, 0, 5, 3);
        Due.dueTurn(x, 1, 0, 2, 1);
        Due.dueTurn(x, 2, 1, 4, 5);
        Due.dueTurn(x, 3, 2, 3, 4);
        for (int w = 0; w < 6; w++) {
            due("about: claim", x.claim(w, 0), 0);
        }
        for (int k = 0; k < 4; k++) {
            due("about: raise", x.raise(k, 0), 0);
        }
        due("about: cause()", x.cause(), 0);
        aboutOfABundle();
    }

    private static void aboutOfABundle() {
        SquareTiler x = Nets.bundle(4);
        due("about: before, wide", x.rectangle(0), 3);
        due("about: before, high", x.rectangle(1), 1);
        due("about() of a bundle", x.about(), 4);
        due("about: wide", x.rectangle(0), 1);
        due("about: high", x.rectangle(1), 3);
        due("about() of 12", Nets.bundle(12).about(), 12);
        due("about() of two", Nets.chain(12).about(), 2);
    }

    private static void aboutRefused() {
        SquareTiler x = Nets.bundle(13);
        due("about() would have 13", x.about(), NO);
        due("about: unchanged", x.count(0), 2);
        SquareTiler y = Nets.bridge();
        y.cut(2, true);
        y.claim(0, 4);
        due("about() with a cut wire", y.about(), NO);
        due("about: claims unchanged", y.claim(0, 4), 4);
        y.cut(2, false);
        y.cut(0, true);
        due("about() with the first wire cut", y.about(), NO);
        y.cut(0, false);
        y.battery(-1);
        due("about() without a battery", y.about(), NO);
        SquareTiler z = Nets.bundle(2);
        z.knot();
        z.wire(1, 2);
        z.lay(1, 2);
        due("about() of a net that is not ready", z.about(), NO);
        z.lay(2, 2);
        due("about: ready", z.cause(), 0);
        due("about() with a face on both sides", z.about(), NO);
        due("about: unchanged", z.count(0), 3);
        SquareTiler loose = new SquareTiler();
        loose.knot();
        loose.knot();
        loose.knot();
        loose.wire(0, 1);
        loose.wire(1, 2);
        loose.wire(1, 2);
        Nets.layRow(loose, 0, 0);
        Nets.layRow(loose, 1, 0, 1, 2);
        Nets.layRow(loose, 2, 2, 1);
        loose.battery(2);
        due("about: ready", loose.cause(), 0);
        due("about() with a face on both sides of wire 0", loose.about(), NO);
    }

    private static void clear() {
        SquareTiler x = Nets.bridge();
        x.tell(0, 0, 1);
        x.keep();
        due("clear()", x.clear(), 6);
        due("clear: count(0)", x.count(0), 0);
        due("clear: count(1)", x.count(1), 0);
        due("clear: count(2)", x.count(2), 1);
        due("clear: count(3)", x.count(3), -1);
        due("clear() again", x.clear(), 0);
        due("clear: what is kept stays", x.back(), 6);
    }

    private static void keepAndBack() {
        SquareTiler x = Nets.bridge();
        due("back() when nothing is kept", x.back(), NO);
        due("back: unchanged", x.count(1), 6);
        x.cut(2, true);
        x.grant();
        due("keep()", x.keep(), 6);
        x.claim(0, 9);
        x.raise(0, 9);
        x.cut(2, false);
        x.battery(1);
        x.bare(0);
        x.mirror();
        x.knot();
        x.wire(0, 4);
        due("back()", x.back(), 6);
        due("back: knots", x.count(0), 4);
        due("back: wires", x.count(1), 6);
        due("back: battery", x.count(3), 5);
        due("back: cut", x.of(2, 2), 1);
        due("back: claim", x.claim(0, 1), 1);
        due("back: raise", x.raise(0, 2), 2);
        due("back: judge()", x.judge(), 0);
        Due.dueTurn(x, 0, 5, 0, 1);
        Due.dueTurn(x, 3, 4, 3, 5);
        x.clear();
        for (int k = 0; k < 12; k++) {
            x.knot();
        }
        for (int w = 0; w < 6; w++) {
            x.wire(11 - w, w);
        }
        due("back() once more", x.back(), 6);
        due("back: judge()", x.judge(), 0);
        Due.dueEnds(x, 0, 0, 1);
        Due.dueEnds(x, 3, 1, 3);
        Due.dueEnds(x, 5, 0, 3);
        SquareTiler y = new SquareTiler();
        due("keep() of an empty net", y.keep(), 0);
        y.knot();
        due("back() to an empty net", y.back(), 0);
        due("back: knots", y.count(0), 0);
        y.knot();
        y.tell(0, 0, 3);
        due("keep() in its place", y.keep(), 0);
        y.clear();
        y.hush();
        due("back()", y.back(), 0);
        due("back: knots", y.count(0), 1);
        due("back: told squares are not kept", y.count(2), 0);
    }
}
