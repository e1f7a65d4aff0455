import java.util.ArrayList;
import java.util.Collections;
import java.util.List;
import java.util.Random;

/** Drawn runs of at most 512 calls, each answer beside that of the model; the seeds are fixed. */
public final class ModelTest {
    private static final int RUNS = 400;
    private static final int MOST_CALLS = 512;
    private static final int CALLS_KINDS = 36;
    private static final String[] NAMES = {"knot", "wire", "battery", "cut", "lay", "bare", "mirror", "about", "clear",
        "keep", "back", "cause", "of", "turn", "faces", "face", "trees", "current", "height", "place", "rectangle",
        "square", "within", "at", "tell", "alter", "hush", "copy", "fit", "read", "claim", "raise", "grant", "judge",
        "count"};
    private static final int WIRE = 1;
    private static final int BATTERY = 2;
    private static final int CUT = 3;
    private static final int LAY = 4;
    private static final int MIRROR = 6;
    private static final int ABOUT = 7;
    private static final int KEEP = 9;
    private static final int BACK = 10;
    private static final int CAUSE = 11;
    private static final int RECTANGLE = 20;
    private static final int TELL = 24;
    private static final int ALTER = 25;
    private static final int HUSH = 26;
    private static final int COPY = 27;
    private static final int FIT = 28;
    private static final int READ = 29;
    private static final int CLAIM = 30;
    private static final int RAISE = 31;
    private static final int GRANT = 32;
    private static final int JUDGE = 33;

    private final Random random;
    private final SquareTiler tiler = new SquareTiler();
    private final Model model = new Model();
    private final StringBuilder told = new StringBuilder();
    private boolean allowsTwins = true;
    private int calls = 0;

    private ModelTest(long seed) {
        random = new Random(seed);
        told.append("seed ").append(seed).append(": ");
    }

    public static void main(String[] args) {
        int[] causes = new int[6];
        for (int seed = 0; seed < RUNS && Due.wrongSoFar() == 0; seed++) {
            ModelTest run = new ModelTest(seed);
            run.play(seed % 7);
            causes[run.model.cause()]++;
        }
        // The runs are of use only if they come to all kinds of nets.
        for (int c = 0; c < 6; c++) {
            Due.due("runs that end with cause " + c, causes[c] > 0 ? 1 : 0, 1);
        }
        Due.finish("ModelTest");
    }

    private void play(int kind) {
        if (kind == 0) {
            playWild();
            return;
        }
        allowsTwins = kind > 3;
        for (int part = 0; part < 4 && calls < MOST_CALLS - 160; part++) {
            if (kind <= 2) {
                ask(8, 0, 0, 0);
                drawPlane(5 + random.nextInt(5), 22);
            } else if (kind <= 5) {
                ask(8, 0, 0, 0);
                drawPlane(kind == 5 ? 12 : 2 + random.nextInt(11), kind == 5 ? 22 : 22 - random.nextInt(14));
            } else {
                tellDrawn();
            }
            for (int i = 0; i < 4; i++) {
                change();
                look(12);
            }
        }
        look(MOST_CALLS - calls);
    }

    /** Calls of all kinds, with arguments near what there is and far from it. */
    private void playWild() {
        while (calls < MOST_CALLS) {
            int call = random.nextInt(3) == 0 ? random.nextInt(CALLS_KINDS - 1) : random.nextInt(5);
            if (call == 8 && random.nextInt(4) != 0) {
                continue;
            }
            ask(call, wild(), wild(), wild());
        }
    }

    private int wild() {
        switch (random.nextInt(12)) {
            case 0:
                return random.nextInt();
            case 1:
                return random.nextBoolean() ? Integer.MIN_VALUE : Integer.MAX_VALUE;
            case 2:
                return 1000000 + random.nextInt(3) - 1;
            case 3:
                return (random.nextBoolean() ? 1 : -1) * (1000000000 + random.nextInt(3) - 1);
            case 4:
                return random.nextInt(50) - 3;
            default:
                return random.nextInt(4);
        }
    }

    private int small(int below) {
        return random.nextInt(40) == 0 ? wild() : random.nextInt(below + 1) - (random.nextInt(20) == 0 ? 1 : 0);
    }

    /** A tree is drawn in the plane, then wires across its faces: it stays plane all the way. */
    private void drawPlane(int knots, int wires) {
        List<int[]> ends = new ArrayList<>();
        List<List<Integer>> turns = new ArrayList<>();
        turns.add(new ArrayList<>());
        while (turns.size() < knots) {
            int k = random.nextInt(turns.size());
            List<Integer> turn = turns.get(k);
            turn.add(random.nextInt(turn.size() + 1), ends.size());
            ends.add(turned(k, turns.size()));
            turns.add(new ArrayList<>(List.of(ends.size() - 1)));
        }
        for (int tries = 0; tries < 400 && ends.size() < wires; tries++) {
            addAcross(ends, turns);
        }
        writeDown(ends, turns);
    }

    private int[] turned(int a, int b) {
        return random.nextBoolean() ? new int[] {a, b} : new int[] {b, a};
    }

    /** From the corner at the end of a dart, round its face, to the corner at the end of another dart. */
    private void addAcross(List<int[]> ends, List<List<Integer>> turns) {
        int wire = random.nextInt(ends.size());
        int side = random.nextInt(2);
        int from = ends.get(wire)[side];
        int other = wire;
        int to = from;
        for (int steps = 1 + random.nextInt(6); steps > 0; steps--) {
            List<Integer> turn = turns.get(to);
            other = turn.get((turn.indexOf(other) + 1) % turn.size());
            to = ends.get(other)[0] + ends.get(other)[1] - to;
        }
        int[] pair = {from, to};
        boolean isTwin = ends.stream().anyMatch(e -> e[0] + e[1] == pair[0] + pair[1]
                && (e[0] == pair[0] || e[0] == pair[1]));
        if (to == from || isTwin && !allowsTwins) {
            return;
        }
        int added = ends.size();
        ends.add(turned(from, to));
        turns.get(from).add(turns.get(from).indexOf(wire) + 1, added);
        turns.get(to).add(turns.get(to).indexOf(other) + 1, added);
    }

    private void writeDown(List<int[]> ends, List<List<Integer>> turns) {
        for (int k = 0; k < turns.size(); k++) {
            ask(0, 0, 0, 0);
        }
        for (int[] wire : ends) {
            ask(WIRE, wire[0], wire[1], 0);
        }
        for (int k = 0; k < turns.size(); k++) {
            List<Integer> turn = turns.get(k);
            Collections.rotate(turn, random.nextInt(turn.size()));
            if (random.nextInt(150) == 0) {
                Collections.shuffle(turn, random);
            }
            for (int w : turn) {
                ask(LAY, k, w, 0);
            }
        }
        for (int tries = 0; tries < 6 && model.cause() != 0; tries++) {
            ask(BATTERY, random.nextInt(ends.size()), 0, 0);
        }
    }

    /** Squares are split into squares again and again, told in any order, and read. */
    private void tellDrawn() {
        ask(HUSH, 0, 0, 0);
        int across = 1 + random.nextInt(4);
        int up = 1 + random.nextInt(3);
        int side = 36;
        List<int[]> squares = new ArrayList<>();
        for (int i = 0; i < across * up; i++) {
            squares.add(new int[] {i % across * side, i / across * side, side});
        }
        for (int tries = random.nextInt(6); tries > 0; tries--) {
            split(squares, 2 + random.nextInt(2));
        }
        Collections.shuffle(squares, random);
        for (int[] s : squares) {
            ask(TELL, s[0], s[1], s[2]);
        }
        ask(FIT, across * side, up * side, 0);
        ask(READ, across * side, up * side, 0);
        ask(CAUSE, 0, 0, 0);
    }

    private void split(List<int[]> squares, int parts) {
        int[] s = squares.get(random.nextInt(squares.size()));
        if (s[2] % parts != 0 || squares.size() + parts * parts > 22) {
            return;
        }
        int side = s[2] / parts;
        squares.remove(s);
        for (int i = 0; i < parts * parts; i++) {
            squares.add(new int[] {s[0] + i % parts * side, s[1] + i / parts * side, side});
        }
    }

    private void change() {
        switch (random.nextInt(11)) {
            case 0:
                ask(MIRROR, 0, 0, 0);
                break;
            case 1:
            case 2:
                ask(ABOUT, 0, 0, 0);
                break;
            case 3:
                ask(CUT, small(22), random.nextInt(3), 0);
                break;
            case 4:
                ask(BATTERY, small(22) - (random.nextInt(8) == 0 ? 1 : 0), 0, 0);
                break;
            case 5:
                ask(random.nextBoolean() ? KEEP : BACK, 0, 0, 0);
                break;
            case 6:
            case 7:
                copyAndRead();
                break;
            case 8:
                ask(random.nextInt(6), small(12), small(22), 0);
                break;
            default:
                claimSome();
        }
    }

    private void copyAndRead() {
        int wide = model.rectangle(0);
        int high = model.rectangle(1);
        ask(COPY, 0, 0, 0);
        ask(FIT, wide, high, 0);
        if (random.nextBoolean()) {
            int i = random.nextInt(21);
            ask(ALTER, i, random.nextInt(3), random.nextInt(Math.max(2, wide)));
            ask(FIT, wide, high, 0);
            ask(FIT, wide + random.nextInt(3), high + random.nextInt(3), 0);
        }
        ask(READ, wide, high, 0);
    }

    private void claimSome() {
        ask(GRANT, 0, 0, 0);
        ask(JUDGE, 0, 0, 0);
        int kind = random.nextInt(4);
        int times = new int[] {2, -1, 0, 1}[kind];
        int more = kind == 3 ? random.nextInt(2) : 0;
        if (random.nextBoolean()) {
            for (int w = 0; w < model.count(1); w++) {
                ask(CLAIM, w, model.current(w) * times, 0);
            }
            for (int k = 0; k < model.count(0); k++) {
                ask(RAISE, k, model.height(k) * times + more, 0);
            }
            ask(JUDGE, 0, 0, 0);
        }
        if (random.nextBoolean()) {
            ask(random.nextBoolean() ? CLAIM : RAISE, small(12), random.nextInt(5) - 2, 0);
            ask(JUDGE, 0, 0, 0);
        }
        if (random.nextInt(4) == 0) {
            claimUneven();
        }
    }

    /** Drawn heights, and for each wire what they make of it: only the knots can be wrong. */
    private void claimUneven() {
        int[] heights = new int[12];
        int most = random.nextBoolean() ? 3 : 500000000;
        for (int k = 0; k < model.count(0); k++) {
            heights[k] = random.nextInt(2 * most + 1) - most;
            ask(RAISE, k, heights[k], 0);
        }
        for (int w = 0; w < model.count(1); w++) {
            boolean isPlain = model.of(w, 2) == 0;
            ask(CLAIM, w, isPlain ? heights[model.of(w, 0)] - heights[model.of(w, 1)] : 0, 0);
        }
        ask(JUDGE, 0, 0, 0);
    }

    private void look(int times) {
        for (int i = 0; i < times && calls < MOST_CALLS; i++) {
            int call = CAUSE + random.nextInt(TELL - CAUSE + 1);
            if (call == TELL) {
                call = 34;
            }
            if (call == RECTANGLE) {
                ask(call, small(5), 0, 0);
            } else if (call == 22) {
                ask(call, small(6), 0, 0);
            } else if (call == 23) {
                ask(call, small(Math.max(1, model.rectangle(0))), small(Math.max(1, model.rectangle(1))), 0);
            } else {
                ask(call, small(call == 15 ? 44 : call == 34 ? 4 : 21), small(call == 13 ? 8 : 3), 0);
            }
        }
    }

    private void ask(int call, int a, int b, int c) {
        if (calls >= MOST_CALLS) {
            return;
        }
        calls++;
        told.append(NAMES[call]).append('(').append(a).append(' ').append(b).append(' ').append(c).append(") ");
        long want = askModel(call, a, b, c);
        long got = askTiler(call, a, b, c);
        Due.due(got == want ? "" : told.toString(), got, want);
    }

    private long askTiler(int call, int a, int b, int c) {
        switch (call) {
            case 0: return tiler.knot();
            case 1: return tiler.wire(a, b);
            case 2: return tiler.battery(a);
            case 3: return tiler.cut(a, b == 1);
            case 4: return tiler.lay(a, b);
            case 5: return tiler.bare(a);
            case 6: return tiler.mirror();
            case 7: return tiler.about();
            case 8: return tiler.clear();
            case 9: return tiler.keep();
            case 10: return tiler.back();
            case 11: return tiler.cause();
            case 12: return tiler.of(a, b);
            case 13: return tiler.turn(a, b);
            case 14: return tiler.faces();
            case 15: return tiler.face(a);
            case 16: return tiler.trees();
            case 17: return tiler.current(a);
            case 18: return tiler.height(a);
            case 19: return tiler.place(a);
            case 20: return tiler.rectangle(a);
            case 21: return tiler.square(a, b);
            case 22: return tiler.within(a);
            case 23: return tiler.at(a, b);
            case 24: return tiler.tell(a, b, c);
            case 25: return tiler.alter(a, b, c);
            case 26: return tiler.hush();
            case 27: return tiler.copy();
            case 28: return tiler.fit(a, b);
            case 29: return tiler.read(a, b);
            case 30: return tiler.claim(a, b);
            case 31: return tiler.raise(a, b);
            case 32: return tiler.grant();
            case 33: return tiler.judge();
            default: return tiler.count(a);
        }
    }

    private long askModel(int call, int a, int b, int c) {
        switch (call) {
            case 0: return model.knot();
            case 1: return model.wire(a, b);
            case 2: return model.battery(a);
            case 3: return model.cut(a, b == 1);
            case 4: return model.lay(a, b);
            case 5: return model.bare(a);
            case 6: return model.mirror();
            case 7: return model.about();
            case 8: return model.clear();
            case 9: return model.keep();
            case 10: return model.back();
            case 11: return model.cause();
            case 12: return model.of(a, b);
            case 13: return model.turn(a, b);
            case 14: return model.faces();
            case 15: return model.face(a);
            case 16: return model.trees();
            case 17: return model.current(a);
            case 18: return model.height(a);
            case 19: return model.place(a);
            case 20: return model.rectangle(a);
            case 21: return model.square(a, b);
            case 22: return model.within(a);
            case 23: return model.at(a, b);
            case 24: return model.tell(a, b, c);
            case 25: return model.alter(a, b, c);
            case 26: return model.hush();
            case 27: return model.copy();
            case 28: return model.fit(a, b);
            case 29: return model.read(a, b);
            case 30: return model.claim(a, b);
            case 31: return model.raise(a, b);
            case 32: return model.grant();
            case 33: return model.judge();
            default: return model.count(a);
        }
    }
}
