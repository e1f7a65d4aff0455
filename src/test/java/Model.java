import java.math.BigInteger;
import java.util.ArrayDeque;
import java.util.ArrayList;
import java.util.Arrays;
import java.util.Collections;
import java.util.HashMap;
import java.util.List;
import java.util.Map;
import java.util.TreeSet;

/** The document said again in the plainest and slowest words, to stand beside the class. */
final class Model {
    private static final int NO = -2000000000;

    /** A net with its claims; a wire is its first end, its second end and 1 if it is cut. */
    private static final class Drawing {
        final List<List<Integer>> turns = new ArrayList<>();
        final List<int[]> wires = new ArrayList<>();
        final List<Integer> knotClaims = new ArrayList<>();
        final List<Integer> wireClaims = new ArrayList<>();
        int battery = -1;

        Drawing twin() {
            Drawing other = new Drawing();
            for (List<Integer> turn : turns) {
                other.turns.add(new ArrayList<>(turn));
            }
            for (int[] wire : wires) {
                other.wires.add(wire.clone());
            }
            other.knotClaims.addAll(knotClaims);
            other.wireClaims.addAll(wireClaims);
            other.battery = battery;
            return other;
        }

        void addKnot() {
            turns.add(new ArrayList<>());
            knotClaims.add(0);
        }

        void addWire(int a, int b) {
            wires.add(new int[] {a, b, 0});
            wireClaims.add(0);
        }
    }

    private Drawing net = new Drawing();
    private Drawing kept = null;
    private List<int[]> told = new ArrayList<>();

    private boolean noKnot(int k) {
        return k < 0 || k >= net.turns.size();
    }

    private boolean noWire(int w) {
        return w < 0 || w >= net.wires.size();
    }

    private int kind(int w) {
        return w == net.battery ? 2 : net.wires.get(w)[2];
    }

    int knot() {
        if (net.turns.size() == 12) {
            return NO;
        }
        net.addKnot();
        return net.turns.size() - 1;
    }

    int wire(int a, int b) {
        if (noKnot(a) || noKnot(b) || a == b || net.wires.size() == 22) {
            return NO;
        }
        net.addWire(a, b);
        return net.wires.size() - 1;
    }

    int battery(int w) {
        if (w != -1 && noWire(w)) {
            return NO;
        }
        int was = net.battery;
        net.battery = w;
        if (w != -1) {
            net.wires.get(w)[2] = 0;
        }
        return was;
    }

    int cut(int w, boolean is) {
        if (noWire(w) || w == net.battery) {
            return NO;
        }
        int was = net.wires.get(w)[2];
        net.wires.get(w)[2] = is ? 1 : 0;
        return was;
    }

    int lay(int k, int w) {
        if (noKnot(k) || noWire(w) || net.turns.get(k).contains(w)) {
            return NO;
        }
        int[] wire = net.wires.get(w);
        if (wire[0] != k && wire[1] != k) {
            return NO;
        }
        net.turns.get(k).add(w);
        return net.turns.get(k).size();
    }

    int bare(int k) {
        if (noKnot(k)) {
            return NO;
        }
        int was = net.turns.get(k).size();
        net.turns.get(k).clear();
        return was;
    }

    int mirror() {
        net.turns.forEach(Collections::reverse);
        return net.turns.size();
    }

    int about() {
        if (cause() != 0) {
            return NO;
        }
        List<List<Integer>> rings = rings();
        int[] faceOf = faceOf(rings);
        for (int w = 0; w < net.wires.size(); w++) {
            if (kind(w) == 1 || faceOf[2 * w] == faceOf[2 * w + 1]) {
                return NO;
            }
        }
        if (rings.size() > 12) {
            return NO;
        }
        Drawing other = new Drawing();
        for (int w = 0; w < net.wires.size(); w++) {
            other.addWire(faceOf[2 * w], faceOf[2 * w + 1]);
        }
        for (List<Integer> ring : rings) {
            other.addKnot();
            List<Integer> turn = other.turns.get(other.turns.size() - 1);
            turn.add(ring.get(0) / 2);
            for (int i = ring.size() - 1; i > 0; i--) {
                turn.add(ring.get(i) / 2);
            }
        }
        other.battery = net.battery;
        net = other;
        return net.turns.size();
    }

    int clear() {
        int was = net.wires.size();
        net = new Drawing();
        return was;
    }

    int keep() {
        kept = net.twin();
        return net.wires.size();
    }

    int back() {
        if (kept == null) {
            return NO;
        }
        net = kept.twin();
        return net.wires.size();
    }

    int cause() {
        if (net.battery == -1) {
            return 1;
        }
        if (isCause2()) {
            return 2;
        }
        if (!hangs(3)) {
            return 3;
        }
        if (!hangs(1)) {
            return 4;
        }
        return net.turns.size() + rings().size() == net.wires.size() + 2 ? 0 : 5;
    }

    private boolean isCause2() {
        for (int k = 0; k < net.turns.size(); k++) {
            for (int w = 0; w < net.wires.size(); w++) {
                int[] wire = net.wires.get(w);
                boolean isEnd = wire[0] == k || wire[1] == k;
                if (Collections.frequency(net.turns.get(k), w) != (isEnd ? 1 : 0)) {
                    return true;
                }
            }
        }
        return false;
    }

    /** Whether wires of kinds below a number hang all knots together: a walk from knot 0. */
    private boolean hangs(int kindsBelow) {
        boolean[] seen = new boolean[net.turns.size()];
        ArrayDeque<Integer> ahead = new ArrayDeque<>();
        ahead.add(0);
        seen[0] = true;
        int reached = 0;
        while (!ahead.isEmpty()) {
            int k = ahead.remove();
            reached++;
            for (int w = 0; w < net.wires.size(); w++) {
                int[] wire = net.wires.get(w);
                if (kind(w) < kindsBelow && (wire[0] == k || wire[1] == k)) {
                    int other = wire[0] + wire[1] - k;
                    if (!seen[other]) {
                        seen[other] = true;
                        ahead.add(other);
                    }
                }
            }
        }
        return reached == net.turns.size();
    }

    int of(int w, int what) {
        if (noWire(w) || what < 0 || what > 2) {
            return NO;
        }
        return what == 2 ? kind(w) : net.wires.get(w)[what];
    }

    int turn(int k, int i) {
        if (noKnot(k)) {
            return NO;
        }
        return i < 0 || i >= net.turns.get(k).size() ? -1 : net.turns.get(k).get(i);
    }

    /** The rings of darts, each from its least dart on. */
    private List<List<Integer>> rings() {
        List<List<Integer>> rings = new ArrayList<>();
        TreeSet<Integer> left = new TreeSet<>();
        for (int d = 0; d < 2 * net.wires.size(); d++) {
            left.add(d);
        }
        while (!left.isEmpty()) {
            List<Integer> ring = new ArrayList<>();
            for (int d = left.first(); left.remove(d); d = behind(d)) {
                ring.add(d);
            }
            rings.add(ring);
        }
        return rings;
    }

    private int behind(int dart) {
        int[] wire = net.wires.get(dart / 2);
        int k = dart % 2 == 0 ? wire[1] : wire[0];
        List<Integer> turn = new ArrayList<>(net.turns.get(k));
        Collections.rotate(turn, -turn.indexOf(dart / 2) - 1);
        int next = turn.get(0);
        return 2 * next + (net.wires.get(next)[0] == k ? 0 : 1);
    }

    private int[] faceOf(List<List<Integer>> rings) {
        int[] faceOf = new int[2 * net.wires.size()];
        for (int f = 0; f < rings.size(); f++) {
            for (int d : rings.get(f)) {
                faceOf[d] = f;
            }
        }
        return faceOf;
    }

    int faces() {
        return isCause2() ? NO : rings().size();
    }

    int face(int dart) {
        if (isCause2() || dart < 0 || dart >= 2 * net.wires.size()) {
            return NO;
        }
        return faceOf(rings())[dart];
    }

    long trees() {
        if (cause() != 0) {
            return NO;
        }
        List<int[]> plain = new ArrayList<>();
        for (int w = 0; w < net.wires.size(); w++) {
            if (kind(w) == 0) {
                plain.add(net.wires.get(w));
            }
        }
        int[] group = new int[net.turns.size()];
        for (int k = 0; k < group.length; k++) {
            group[k] = k;
        }
        return ways(plain, 0, group, new HashMap<>());
    }

    /** The ways to take wires from one on without a ring, so that all groups of knots become one. */
    private static long ways(List<int[]> plain, int from, int[] group, Map<String, Long> known) {
        if (Arrays.stream(group).allMatch(g -> g == 0)) {
            return 1;
        }
        if (from == plain.size()) {
            return 0;
        }
        String key = from + Arrays.toString(group);
        Long old = known.get(key);
        if (old != null) {
            return old;
        }
        long sum = ways(plain, from + 1, group, known);
        int a = group[plain.get(from)[0]];
        int b = group[plain.get(from)[1]];
        if (a != b) {
            int[] joined = group.clone();
            for (int k = 0; k < joined.length; k++) {
                joined[k] = joined[k] == Math.max(a, b) ? Math.min(a, b) : joined[k];
            }
            sum += ways(plain, from + 1, joined, known);
        }
        known.put(key, sum);
        return sum;
    }

    /** A fraction, its lower part above 0 and without a common divisor. */
    private record Part(BigInteger over, BigInteger under) {
        static Part of(long n) {
            return new Part(BigInteger.valueOf(n), BigInteger.ONE);
        }

        static Part lean(BigInteger over, BigInteger under) {
            BigInteger g = over.gcd(under);
            BigInteger sign = BigInteger.valueOf(under.signum());
            return new Part(over.divide(g).multiply(sign), under.divide(g).multiply(sign));
        }

        Part less(Part o) {
            return lean(over.multiply(o.under).subtract(o.over.multiply(under)), under.multiply(o.under));
        }

        Part times(Part o) {
            return lean(over.multiply(o.over), under.multiply(o.under));
        }

        Part by(Part o) {
            return lean(over.multiply(o.under), under.multiply(o.over));
        }
    }

    /** Heights and currents, in whole numbers: the upper pole is held at 1, the lower one at 0, all the rest scaled. */
    private int[][] flow() {
        int n = net.turns.size();
        Part[][] rows = new Part[n][n + 1];
        for (Part[] row : rows) {
            Arrays.fill(row, Part.of(0));
        }
        int[] poles = net.wires.get(net.battery);
        for (int w = 0; w < net.wires.size(); w++) {
            int[] wire = net.wires.get(w);
            for (int end = 0; end < 2 && kind(w) == 0; end++) {
                Part[] row = rows[wire[end]];
                row[wire[end]] = row[wire[end]].less(Part.of(-1));
                row[wire[1 - end]] = row[wire[1 - end]].less(Part.of(1));
            }
        }
        for (int end = 0; end < 2; end++) {
            Arrays.fill(rows[poles[end]], Part.of(0));
            rows[poles[end]][poles[end]] = Part.of(1);
            rows[poles[end]][n] = Part.of(1 - end);
        }
        return whole(solve(rows));
    }

    private static Part[] solve(Part[][] rows) {
        int n = rows.length;
        for (int c = 0; c < n; c++) {
            int p = c;
            while (rows[p][c].over.signum() == 0) {
                p++;
            }
            Part[] swap = rows[p];
            rows[p] = rows[c];
            rows[c] = swap;
            for (int r = 0; r < n; r++) {
                if (r != c && rows[r][c].over.signum() != 0) {
                    Part factor = rows[r][c].by(rows[c][c]);
                    for (int i = 0; i <= n; i++) {
                        rows[r][i] = rows[r][i].less(factor.times(rows[c][i]));
                    }
                }
            }
        }
        Part[] heights = new Part[n];
        for (int k = 0; k < n; k++) {
            heights[k] = rows[k][n].by(rows[k][k]);
        }
        return heights;
    }

    private int[][] whole(Part[] heights) {
        Part[] currents = new Part[net.wires.size()];
        BigInteger scale = BigInteger.ONE;
        for (int w = 0; w < currents.length; w++) {
            int[] wire = net.wires.get(w);
            currents[w] = kind(w) == 0 ? heights[wire[0]].less(heights[wire[1]]) : Part.of(0);
            scale = scale.multiply(currents[w].under).divide(scale.gcd(currents[w].under));
        }
        BigInteger common = BigInteger.ZERO;
        for (Part current : currents) {
            common = common.gcd(current.times(new Part(scale, BigInteger.ONE)).over);
        }
        Part factor = Part.lean(scale, common);
        return new int[][] {scaled(heights, factor), scaled(currents, factor)};
    }

    private static int[] scaled(Part[] parts, Part factor) {
        int[] all = new int[parts.length];
        for (int i = 0; i < all.length; i++) {
            Part part = parts[i].times(factor);
            if (!part.under.equals(BigInteger.ONE)) {
                throw new IllegalStateException("a flow that is not whole");
            }
            all[i] = part.over.intValueExact();
        }
        return all;
    }

    int current(int w) {
        return cause() != 0 || noWire(w) ? NO : flow()[1][w];
    }

    int height(int k) {
        return cause() != 0 || noKnot(k) ? NO : flow()[0][k];
    }

    private int[] places() {
        List<List<Integer>> rings = rings();
        int[] faceOf = faceOf(rings);
        int[] currents = flow()[1];
        Integer[] places = new Integer[rings.size()];
        places[faceOf[2 * net.battery + 1]] = 0;
        ArrayDeque<Integer> ahead = new ArrayDeque<>();
        ahead.add(faceOf[2 * net.battery + 1]);
        while (!ahead.isEmpty()) {
            int f = ahead.remove();
            for (int d : rings.get(f)) {
                int other = faceOf[d ^ 1];
                int step = d % 2 == 0 ? currents[d / 2] : -currents[d / 2];
                if (d / 2 == net.battery) {
                    continue;
                }
                if (places[other] == null) {
                    places[other] = places[f] + step;
                    ahead.add(other);
                } else if (places[other] != places[f] + step) {
                    throw new IllegalStateException("places that don't agree");
                }
            }
        }
        int[] all = new int[places.length];
        for (int f = 0; f < all.length; f++) {
            all[f] = places[f];
        }
        return all;
    }

    int place(int f) {
        if (cause() != 0) {
            return NO;
        }
        int[] places = places();
        return f < 0 || f >= places.length ? NO : places[f];
    }

    /** Left, low, side and wire of each square. */
    private List<int[]> laying() {
        int[][] flow = flow();
        int[] places = places();
        int[] faceOf = faceOf(rings());
        List<int[]> all = new ArrayList<>();
        for (int w = 0; w < net.wires.size(); w++) {
            if (flow[1][w] != 0) {
                int[] wire = net.wires.get(w);
                all.add(new int[] {Math.min(places[faceOf[2 * w]], places[faceOf[2 * w + 1]]),
                    Math.min(flow[0][wire[0]], flow[0][wire[1]]), Math.abs(flow[1][w]), w});
            }
        }
        return all;
    }

    int rectangle(int what) {
        if (cause() != 0) {
            return NO;
        }
        List<int[]> squares = laying();
        switch (what) {
            case 0: {
                int sum = 0;
                for (int[] s : squares) {
                    sum += s[1] == 0 ? s[2] : 0;
                }
                return sum;
            }
            case 1: {
                int sum = 0;
                for (int[] s : squares) {
                    sum += s[0] == 0 ? s[2] : 0;
                }
                return sum;
            }
            case 2:
                return squares.size();
            case 3:
                return isPerfect(squares) ? 1 : 0;
            case 4:
                return leastInner(squares).isEmpty() ? 1 : 0;
            default:
                return NO;
        }
    }

    private boolean isPerfect(List<int[]> squares) {
        long plain = 0;
        for (int w = 0; w < net.wires.size(); w++) {
            plain += kind(w) == 0 ? 1 : 0;
        }
        return squares.stream().mapToInt(s -> s[2]).distinct().count() == plain;
    }

    /** Tries each set of squares, or, where they are many, each rectangle whose sides lie on some of theirs. */
    private static List<Integer> leastInner(List<int[]> squares) {
        int[] best = null;
        List<Integer> least = List.of();
        for (List<int[]> set : squares.size() <= 9 ? allSets(squares) : allWindows(squares)) {
            if (set.size() < 2 || set.size() == squares.size()) {
                continue;
            }
            int[] box = boxOf(set);
            long area = set.stream().mapToLong(s -> (long) s[2] * s[2]).sum();
            if (area != (long) (box[2] - box[0]) * (box[3] - box[1])) {
                continue;
            }
            int[] rank = {set.size(), box[0], box[1], box[2] - box[0]};
            if (best == null || Arrays.compare(rank, best) < 0) {
                best = rank;
                least = set.stream().map(s -> s[3]).sorted().toList();
            }
        }
        return least;
    }

    private static int[] boxOf(List<int[]> set) {
        int[] box = {Integer.MAX_VALUE, Integer.MAX_VALUE, 0, 0};
        for (int[] s : set) {
            box[0] = Math.min(box[0], s[0]);
            box[1] = Math.min(box[1], s[1]);
            box[2] = Math.max(box[2], s[0] + s[2]);
            box[3] = Math.max(box[3], s[1] + s[2]);
        }
        return box;
    }

    private static List<List<int[]>> allSets(List<int[]> squares) {
        List<List<int[]>> all = new ArrayList<>();
        for (int bits = 0; bits < 1 << squares.size(); bits++) {
            List<int[]> set = new ArrayList<>();
            for (int i = 0; i < squares.size(); i++) {
                if ((bits >> i & 1) == 1) {
                    set.add(squares.get(i));
                }
            }
            all.add(set);
        }
        return all;
    }

    private static List<List<int[]>> allWindows(List<int[]> squares) {
        List<List<int[]>> all = new ArrayList<>();
        int[] xs = cuts(squares, 0);
        int[] ys = cuts(squares, 1);
        for (int x1 : xs) {
            for (int x2 : xs) {
                for (int y1 : ys) {
                    for (int y2 : ys) {
                        if (x1 < x2 && y1 < y2) {
                            all.add(squares.stream().filter(s -> s[0] >= x1 && s[0] + s[2] <= x2
                                    && s[1] >= y1 && s[1] + s[2] <= y2).toList());
                        }
                    }
                }
            }
        }
        return all;
    }

    private static int[] cuts(List<int[]> squares, int way) {
        TreeSet<Integer> all = new TreeSet<>();
        for (int[] s : squares) {
            all.add(s[way]);
            all.add(s[way] + s[2]);
        }
        return all.stream().mapToInt(i -> i).toArray();
    }

    int square(int w, int what) {
        if (cause() != 0 || what < 0 || what > 2) {
            return NO;
        }
        for (int[] s : laying()) {
            if (s[3] == w) {
                return s[what];
            }
        }
        return NO;
    }

    int within(int i) {
        if (cause() != 0) {
            return NO;
        }
        List<Integer> least = leastInner(laying());
        return i < 0 || i >= least.size() ? -1 : least.get(i);
    }

    int at(int x, int y) {
        if (cause() != 0) {
            return NO;
        }
        int found = -1;
        for (int[] s : laying()) {
            if (x >= s[0] && x - s[2] < s[0] && y >= s[1] && y - s[2] < s[1]) {
                if (found != -1) {
                    throw new IllegalStateException("squares that overlap");
                }
                found = s[3];
            }
        }
        boolean isInside = x >= 0 && y >= 0 && x < rectangle(0) && y < rectangle(1);
        if (isInside != (found != -1)) {
            throw new IllegalStateException("squares that don't cover");
        }
        return found;
    }

    private static boolean isWrong(int what, int v) {
        return v < (what == 2 ? 1 : 0) || v > 1000000;
    }

    int tell(int left, int low, int side) {
        if (told.size() == 21 || isWrong(0, left) || isWrong(1, low) || isWrong(2, side)) {
            return NO;
        }
        told.add(new int[] {left, low, side});
        return told.size();
    }

    int alter(int i, int what, int v) {
        if (i < 0 || i >= told.size() || what < 0 || what > 2 || isWrong(what, v)) {
            return NO;
        }
        int was = told.get(i)[what];
        told.get(i)[what] = v;
        return was;
    }

    int hush() {
        int was = told.size();
        told.clear();
        return was;
    }

    int copy() {
        if (cause() != 0) {
            return NO;
        }
        told = new ArrayList<>();
        for (int[] s : laying()) {
            told.add(Arrays.copyOf(s, 3));
        }
        return told.size();
    }

    /** The rectangle is cut into cells along all sides of squares, and each square is painted on them. */
    int fit(int w, int h) {
        if (w < 1 || w > 1000000 || h < 1 || h > 1000000 || told.isEmpty()) {
            return NO;
        }
        for (int i = 0; i < told.size(); i++) {
            int[] s = told.get(i);
            if (s[0] + s[2] > w || s[1] + s[2] > h) {
                return 100 + i;
            }
        }
        List<int[]> bounds = new ArrayList<>(told);
        bounds.add(new int[] {0, 0, w});
        int[] xs = cuts(bounds, 0);
        bounds.set(told.size(), new int[] {0, 0, h});
        int[] ys = cuts(bounds, 1);
        int worst = Integer.MAX_VALUE;
        for (int x : xs) {
            for (int y : ys) {
                if (x < w && y < h) {
                    worst = Math.min(worst, faultOfCell(x, y));
                }
            }
        }
        return worst == Integer.MAX_VALUE ? 0 : worst == Integer.MAX_VALUE - 1 ? 3 : worst;
    }

    private int faultOfCell(int x, int y) {
        List<Integer> on = new ArrayList<>();
        for (int i = 0; i < told.size(); i++) {
            int[] s = told.get(i);
            if (s[0] <= x && x < s[0] + s[2] && s[1] <= y && y < s[1] + s[2]) {
                on.add(i);
            }
        }
        if (on.isEmpty()) {
            return Integer.MAX_VALUE - 1;
        }
        return on.size() == 1 ? Integer.MAX_VALUE : 1000 + 30 * on.get(0) + on.get(1);
    }

    int read(int w, int h) {
        if (fit(w, h) != 0) {
            return NO;
        }
        List<int[]> lines = lines();
        if (lines.size() > 12) {
            return NO;
        }
        net = new Drawing();
        for (int i = 0; i < told.size(); i++) {
            int[] s = told.get(i);
            net.addWire(lineAt(lines, s[1] + s[2], s[0]), lineAt(lines, s[1], s[0]));
        }
        net.battery = told.size();
        net.addWire(0, lines.size() - 1);
        List<Integer> rising = new ArrayList<>();
        for (int i = 0; i < told.size(); i++) {
            rising.add(i);
        }
        rising.sort((a, b) -> told.get(a)[0] - told.get(b)[0]);
        List<Integer> falling = new ArrayList<>(rising);
        Collections.reverse(falling);
        for (int k = 0; k < lines.size(); k++) {
            net.addKnot();
            int knot = k;
            List<Integer> turn = net.turns.get(k);
            rising.stream().filter(i -> net.wires.get(i)[0] == knot).forEach(turn::add);
            if (k == 0 || k == lines.size() - 1) {
                turn.add(net.battery);
            }
            falling.stream().filter(i -> net.wires.get(i)[1] == knot).forEach(turn::add);
        }
        return lines.size();
    }

    /** Height, left and right of each line: edges are joined as long as two of them touch. */
    private List<int[]> lines() {
        List<int[]> lines = new ArrayList<>();
        for (int[] s : told) {
            lines.add(new int[] {s[1], s[0], s[0] + s[2]});
            lines.add(new int[] {s[1] + s[2], s[0], s[0] + s[2]});
        }
        while (joinTwo(lines)) {
            continue;
        }
        lines.sort((a, b) -> a[0] != b[0] ? b[0] - a[0] : a[1] - b[1]);
        return lines;
    }

    private static boolean joinTwo(List<int[]> lines) {
        for (int i = 0; i < lines.size(); i++) {
            for (int j = i + 1; j < lines.size(); j++) {
                int[] a = lines.get(i);
                int[] b = lines.get(j);
                if (a[0] == b[0] && a[1] <= b[2] && b[1] <= a[2]) {
                    a[1] = Math.min(a[1], b[1]);
                    a[2] = Math.max(a[2], b[2]);
                    lines.remove(j);
                    return true;
                }
            }
        }
        return false;
    }

    private static int lineAt(List<int[]> lines, int height, int x) {
        for (int i = 0; i < lines.size(); i++) {
            int[] line = lines.get(i);
            if (line[0] == height && line[1] <= x && x < line[2]) {
                return i;
            }
        }
        throw new IllegalStateException("an edge on no line");
    }

    int claim(int w, int v) {
        return noWire(w) || Math.abs((long) v) > 1000000000 ? NO : net.wireClaims.set(w, v);
    }

    int raise(int k, int v) {
        return noKnot(k) || Math.abs((long) v) > 1000000000 ? NO : net.knotClaims.set(k, v);
    }

    int grant() {
        if (cause() != 0) {
            return NO;
        }
        int[][] flow = flow();
        for (int k = 0; k < flow[0].length; k++) {
            net.knotClaims.set(k, flow[0][k]);
        }
        for (int w = 0; w < flow[1].length; w++) {
            net.wireClaims.set(w, flow[1][w]);
        }
        return net.wires.size();
    }

    int judge() {
        if (cause() != 0) {
            return NO;
        }
        BigInteger common = BigInteger.ZERO;
        BigInteger[] more = new BigInteger[net.turns.size()];
        Arrays.fill(more, BigInteger.ZERO);
        for (int w = 0; w < net.wires.size(); w++) {
            int[] wire = net.wires.get(w);
            long claim = net.wireClaims.get(w);
            long drop = (long) net.knotClaims.get(wire[0]) - net.knotClaims.get(wire[1]);
            if (claim != (kind(w) == 0 ? drop : 0)) {
                return 1000 + w;
            }
            more[wire[0]] = more[wire[0]].add(BigInteger.valueOf(claim));
            more[wire[1]] = more[wire[1]].subtract(BigInteger.valueOf(claim));
            common = common.gcd(BigInteger.valueOf(claim));
        }
        int[] poles = net.wires.get(net.battery);
        for (int k = 0; k < more.length; k++) {
            if (k != poles[0] && k != poles[1] && more[k].signum() != 0) {
                return 2000 + k;
            }
        }
        if (net.knotClaims.get(poles[1]) != 0) {
            return 3000;
        }
        if (net.knotClaims.get(poles[0]) <= 0) {
            return 4000;
        }
        return common.compareTo(BigInteger.ONE) > 0 ? 5000 : 0;
    }

    int count(int what) {
        switch (what) {
            case 0:
                return net.turns.size();
            case 1:
                return net.wires.size();
            case 2:
                return told.size();
            case 3:
                return net.battery;
            default:
                return NO;
        }
    }
}
