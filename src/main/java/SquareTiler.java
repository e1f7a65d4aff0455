/**
 * A bench that lays rectangles of whole squares by letting currents flow through nets in the plane.
 *
 * <p>Every answer is worked out anew from the net that stands, so no call can be answered from a flow
 * that is out of date. All rows that this needs are made once, with the object.
 */
public final class SquareTiler {
    public static final int NO = -2000000000;

    private static final int NONE = -1;
    private static final int MOST_KNOTS = 12;
    private static final int MOST_WIRES = 22;
    private static final int MOST_DARTS = 2 * MOST_WIRES;
    private static final int MOST_TOLD = 21;
    private static final int MOST_LENGTH = 1000000;
    private static final int MOST_CLAIM = 1000000000;

    private final Net net;
    private Net kept;
    private final FaceMap faceMap;
    private final Flow flow;
    private final Laying laying;
    private final Squares told;
    private final Lines lines;

    public SquareTiler() {
        net = new Net();
        kept = null;
        faceMap = new FaceMap();
        flow = new Flow();
        laying = new Laying();
        told = new Squares();
        lines = new Lines();
    }

    // ---- the net

    public int knot() {
        if (net.knots >= MOST_KNOTS) {
            return NO;
        }
        return net.addKnot();
    }

    public int wire(int a, int b) {
        if (!net.isKnot(a) || !net.isKnot(b) || a == b || net.wires >= MOST_WIRES) {
            return NO;
        }
        return net.addWire(a, b);
    }

    public int battery(int w) {
        if (w != NONE && !net.isWire(w)) {
            return NO;
        }
        int before = net.power;
        net.power = w;
        if (w != NONE) {
            net.isCut[w] = false;
        }
        return before;
    }

    public int cut(int w, boolean is) {
        if (!net.isWire(w) || w == net.power) {
            return NO;
        }
        int before = net.isCut[w] ? 1 : 0;
        net.isCut[w] = is;
        return before;
    }

    public int lay(int k, int w) {
        if (!net.isKnot(k) || !net.isWire(w) || !net.endsAt(w, k) || net.spotInTurn(k, w) != NONE) {
            return NO;
        }
        net.addToTurn(k, w);
        return net.turnSize[k];
    }

    public int bare(int k) {
        if (!net.isKnot(k)) {
            return NO;
        }
        int before = net.turnSize[k];
        net.turnSize[k] = 0;
        return before;
    }

    public int mirror() {
        for (int k = 0; k < net.knots; k++) {
            net.reverseTurn(k);
        }
        return net.knots;
    }

    public int about() {
        if (findCause() != 0 || net.hasCutWire() || faceMap.hasWireWithinOneFace(net.wires)
                || faceMap.howMany > MOST_KNOTS) {
            return NO;
        }
        faceMap.makeKnotsOfFaces(net);
        return net.knots;
    }

    public int clear() {
        int before = net.wires;
        net.makeEmpty();
        return before;
    }

    public int keep() {
        if (kept == null) {
            kept = new Net();
        }
        kept.takeFrom(net);
        return net.wires;
    }

    public int back() {
        if (kept == null) {
            return NO;
        }
        net.takeFrom(kept);
        return net.wires;
    }

    // ---- what is told of it

    public int cause() {
        return findCause();
    }

    public int of(int w, int what) {
        if (!net.isWire(w)) {
            return NO;
        }
        switch (what) {
            case 0:
                return net.first[w];
            case 1:
                return net.second[w];
            case 2:
                return w == net.power ? 2 : net.isCut[w] ? 1 : 0;
            default:
                return NO;
        }
    }

    public int turn(int k, int i) {
        if (!net.isKnot(k)) {
            return NO;
        }
        if (i < 0 || i >= net.turnSize[k]) {
            return NONE;
        }
        return net.wireInTurn(k, i);
    }

    public int faces() {
        if (!net.hasWholeTurns()) {
            return NO;
        }
        faceMap.trace(net);
        return faceMap.howMany;
    }

    public int face(int dart) {
        if (!net.hasWholeTurns() || dart < 0 || dart >= 2 * net.wires) {
            return NO;
        }
        faceMap.trace(net);
        return faceMap.faceOf[dart];
    }

    public long trees() {
        if (!letFlow()) {
            return NO;
        }
        return flow.treeCount;
    }

    public int current(int w) {
        if (!net.isWire(w) || !letFlow()) {
            return NO;
        }
        return flow.currentOf[w];
    }

    public int height(int k) {
        if (!net.isKnot(k) || !letFlow()) {
            return NO;
        }
        return flow.heightOf[k];
    }

    public int place(int f) {
        if (!letFlow() || f < 0 || f >= faceMap.howMany) {
            return NO;
        }
        return flow.placeOf[f];
    }

    public int rectangle(int what) {
        if (!layOut()) {
            return NO;
        }
        switch (what) {
            case 0:
                return flow.wide;
            case 1:
                return flow.high;
            case 2:
                return laying.squares.howMany;
            case 3:
                return laying.isPerfect() ? 1 : 0;
            case 4:
                laying.seekLeastInner();
                return laying.innerSize == 0 ? 1 : 0;
            default:
                return NO;
        }
    }

    public int square(int w, int what) {
        if (!net.isWire(w) || !layOut()) {
            return NO;
        }
        int s = laying.squareOfWire(w);
        if (s == NONE || what < 0 || what > 2) {
            return NO;
        }
        return laying.squares.tellOne(s, what);
    }

    public int within(int i) {
        if (!layOut()) {
            return NO;
        }
        laying.seekLeastInner();
        return laying.innerWire(i);
    }

    public int at(int x, int y) {
        if (!layOut()) {
            return NO;
        }
        return laying.wireOnUnit(x, y);
    }

    // ---- told squares

    public int tell(int left, int low, int side) {
        if (told.howMany >= MOST_TOLD || !Squares.canBe(0, left) || !Squares.canBe(1, low)
                || !Squares.canBe(2, side)) {
            return NO;
        }
        told.add(left, low, side);
        return told.howMany;
    }

    public int alter(int i, int what, int v) {
        if (i < 0 || i >= told.howMany || what < 0 || what > 2 || !Squares.canBe(what, v)) {
            return NO;
        }
        int before = told.tellOne(i, what);
        told.setOne(i, what, v);
        return before;
    }

    public int hush() {
        int before = told.howMany;
        told.howMany = 0;
        return before;
    }

    public int copy() {
        if (!layOut()) {
            return NO;
        }
        told.takeFrom(laying.squares);
        return told.howMany;
    }

    public int fit(int w, int h) {
        return findFit(w, h);
    }

    public int read(int w, int h) {
        if (findFit(w, h) != 0) {
            return NO;
        }
        lines.find(told);
        if (lines.howMany > MOST_KNOTS) {
            return NO;
        }
        lines.makeNet(told, net);
        return net.knots;
    }

    // ---- claims

    public int claim(int w, int v) {
        if (!net.isWire(w) || !canBeClaimed(v)) {
            return NO;
        }
        int before = net.wireClaim[w];
        net.wireClaim[w] = v;
        return before;
    }

    public int raise(int k, int v) {
        if (!net.isKnot(k) || !canBeClaimed(v)) {
            return NO;
        }
        int before = net.knotClaim[k];
        net.knotClaim[k] = v;
        return before;
    }

    public int grant() {
        if (!letFlow()) {
            return NO;
        }
        for (int w = 0; w < net.wires; w++) {
            net.wireClaim[w] = flow.currentOf[w];
        }
        for (int k = 0; k < net.knots; k++) {
            net.knotClaim[k] = flow.heightOf[k];
        }
        return net.wires;
    }

    public int judge() {
        if (findCause() != 0) {
            return NO;
        }
        int w = net.wireClaimedWrong();
        if (w != NONE) {
            return 1000 + w;
        }
        int k = net.knotClaimedUneven();
        if (k != NONE) {
            return 2000 + k;
        }
        return judgeScale();
    }

    public int count(int what) {
        switch (what) {
            case 0:
                return net.knots;
            case 1:
                return net.wires;
            case 2:
                return told.howMany;
            case 3:
                return net.power;
            default:
                return NO;
        }
    }

    // ---- what several calls share

    /** Leaves the faces traced when the answer is 0, which all that asks for a READY net relies on. */
    private int findCause() {
        if (net.power == NONE) {
            return 1;
        }
        if (!net.hasWholeTurns()) {
            return 2;
        }
        if (!net.hangsTogether(false)) {
            return 3;
        }
        if (!net.hangsTogether(true)) {
            return 4;
        }
        faceMap.trace(net);
        return net.knots + faceMap.howMany == net.wires + 2 ? 0 : 5;
    }

    private boolean letFlow() {
        if (findCause() != 0) {
            return false;
        }
        flow.solve(net, faceMap);
        return true;
    }

    private boolean layOut() {
        if (findCause() != 0) {
            return false;
        }
        flow.solve(net, faceMap);
        laying.build(net, faceMap, flow);
        return true;
    }

    private int findFit(int w, int h) {
        if (w < 1 || w > MOST_LENGTH || h < 1 || h > MOST_LENGTH || told.howMany == 0) {
            return NO;
        }
        return told.findFault(w, h);
    }

    private int judgeScale() {
        if (net.knotClaim[net.second[net.power]] != 0) {
            return 3000;
        }
        if (net.knotClaim[net.first[net.power]] <= 0) {
            return 4000;
        }
        long divisor = 0;
        for (int w = 0; w < net.wires; w++) {
            divisor = Flow.commonDivisor(divisor, net.wireClaim[w]);
        }
        return divisor > 1 ? 5000 : 0;
    }

    private static boolean canBeClaimed(int v) {
        return v >= -MOST_CLAIM && v <= MOST_CLAIM;
    }

    /** Knots, wires, turns and claims: all that is kept and brought back together. */
    private static final class Net {
        final int[] first = new int[MOST_WIRES];
        final int[] second = new int[MOST_WIRES];
        final boolean[] isCut = new boolean[MOST_WIRES];
        final int[] wireClaim = new int[MOST_WIRES];
        final int[] knotClaim = new int[MOST_KNOTS];
        final int[] turnSize = new int[MOST_KNOTS];
        final int[] turns = new int[MOST_KNOTS * MOST_WIRES];
        int knots = 0;
        int wires = 0;
        int power = NONE;

        void makeEmpty() {
            knots = 0;
            wires = 0;
            power = NONE;
        }

        void takeFrom(Net other) {
            knots = other.knots;
            wires = other.wires;
            power = other.power;
            System.arraycopy(other.first, 0, first, 0, MOST_WIRES);
            System.arraycopy(other.second, 0, second, 0, MOST_WIRES);
            System.arraycopy(other.isCut, 0, isCut, 0, MOST_WIRES);
            System.arraycopy(other.wireClaim, 0, wireClaim, 0, MOST_WIRES);
            System.arraycopy(other.knotClaim, 0, knotClaim, 0, MOST_KNOTS);
            System.arraycopy(other.turnSize, 0, turnSize, 0, MOST_KNOTS);
            System.arraycopy(other.turns, 0, turns, 0, MOST_KNOTS * MOST_WIRES);
        }

        boolean isKnot(int k) {
            return k >= 0 && k < knots;
        }

        boolean isWire(int w) {
            return w >= 0 && w < wires;
        }

        boolean isPlain(int w) {
            return w != power && !isCut[w];
        }

        boolean endsAt(int w, int k) {
            return first[w] == k || second[w] == k;
        }

        /** The rows may hold what an earlier net left there, so all of the new knot's own is set. */
        int addKnot() {
            turnSize[knots] = 0;
            knotClaim[knots] = 0;
            knots++;
            return knots - 1;
        }

        int addWire(int a, int b) {
            first[wires] = a;
            second[wires] = b;
            isCut[wires] = false;
            wireClaim[wires] = 0;
            wires++;
            return wires - 1;
        }

        int wireInTurn(int k, int i) {
            return turns[k * MOST_WIRES + i];
        }

        void addToTurn(int k, int w) {
            if (turnSize[k] < MOST_WIRES) {
                turns[k * MOST_WIRES + turnSize[k]] = w;
                turnSize[k]++;
            }
        }

        int spotInTurn(int k, int w) {
            for (int i = 0; i < turnSize[k]; i++) {
                if (turns[k * MOST_WIRES + i] == w) {
                    return i;
                }
            }
            return NONE;
        }

        void reverseTurn(int k) {
            int from = k * MOST_WIRES;
            int to = from + turnSize[k] - 1;
            for (; from < to; from++, to--) {
                int w = turns[from];
                turns[from] = turns[to];
                turns[to] = w;
            }
        }

        /** No turn can hold a strange wire or one wire twice, so counting is enough. */
        boolean hasWholeTurns() {
            for (int k = 0; k < knots; k++) {
                int ends = 0;
                for (int w = 0; w < wires; w++) {
                    ends += endsAt(w, k) ? 1 : 0;
                }
                if (ends != turnSize[k]) {
                    return false;
                }
            }
            return true;
        }

        boolean hasCutWire() {
            for (int w = 0; w < wires; w++) {
                if (isCut[w]) {
                    return true;
                }
            }
            return false;
        }

        boolean hangsTogether(boolean byPlainOnes) {
            int reached = 1;
            for (int round = 0; round < knots; round++) {
                for (int w = 0; w < wires; w++) {
                    int ends = 1 << first[w] | 1 << second[w];
                    if ((reached & ends) != 0 && (isPlain(w) || !byPlainOnes)) {
                        reached |= ends;
                    }
                }
            }
            return reached == (1 << knots) - 1;
        }

        int dartBehind(int dart) {
            int w = dart >> 1;
            int k = (dart & 1) == 0 ? second[w] : first[w];
            int spot = spotInTurn(k, w) + 1;
            int next = wireInTurn(k, spot < turnSize[k] ? spot : 0);
            return first[next] == k ? 2 * next : 2 * next + 1;
        }

        int wireClaimedWrong() {
            for (int w = 0; w < wires; w++) {
                long due = isPlain(w) ? (long) knotClaim[first[w]] - knotClaim[second[w]] : 0;
                if (wireClaim[w] != due) {
                    return w;
                }
            }
            return NONE;
        }

        int knotClaimedUneven() {
            for (int k = 0; k < knots; k++) {
                if (power != NONE && !endsAt(power, k) && claimedOutflow(k) != 0) {
                    return k;
                }
            }
            return NONE;
        }

        /** A long, for the claims of 22 wires together can be beyond an int. */
        long claimedOutflow(int k) {
            long sum = 0;
            for (int w = 0; w < wires; w++) {
                if (first[w] == k) {
                    sum += wireClaim[w];
                } else if (second[w] == k) {
                    sum -= wireClaim[w];
                }
            }
            return sum;
        }
    }

    /** The faces of a net whose turns are whole. */
    private static final class FaceMap {
        final int[] faceOf = new int[MOST_DARTS];
        final int[] dartAhead = new int[MOST_DARTS];
        int howMany = 0;

        /** Going through the darts by rising numbers numbers the faces by their least darts. */
        void trace(Net net) {
            int darts = 2 * net.wires;
            howMany = 0;
            for (int dart = 0; dart < darts; dart++) {
                faceOf[dart] = NONE;
            }
            for (int dart = 0; dart < darts; dart++) {
                if (faceOf[dart] == NONE) {
                    traceRing(net, dart, darts);
                    howMany++;
                }
            }
        }

        private void traceRing(Net net, int least, int darts) {
            int dart = least;
            for (int step = 0; step < darts && faceOf[dart] == NONE; step++) {
                int behind = net.dartBehind(dart);
                faceOf[dart] = howMany;
                dartAhead[behind] = dart;
                dart = behind;
            }
        }

        int rightOf(int w) {
            return faceOf[2 * w];
        }

        int leftOf(int w) {
            return faceOf[2 * w + 1];
        }

        boolean hasWireWithinOneFace(int wires) {
            for (int w = 0; w < wires; w++) {
                if (rightOf(w) == leftOf(w)) {
                    return true;
                }
            }
            return false;
        }

        /** The rings stand in rows of their own, so the net can be written over as they are gone along. */
        void makeKnotsOfFaces(Net net) {
            net.knots = 0;
            for (int f = 0; f < howMany && f < MOST_KNOTS; f++) {
                net.addKnot();
            }
            for (int w = 0; w < net.wires; w++) {
                net.first[w] = rightOf(w);
                net.second[w] = leftOf(w);
                net.wireClaim[w] = 0;
            }
            int next = 0;
            for (int dart = 0; dart < 2 * net.wires && next < net.knots; dart++) {
                if (faceOf[dart] == next) {
                    layRing(net, dart);
                    next++;
                }
            }
        }

        private void layRing(Net net, int least) {
            int k = faceOf[least];
            int dart = least;
            for (int step = 0; step == 0 || step < MOST_DARTS && dart != least; step++) {
                net.addToTurn(k, dart >> 1);
                dart = dartAhead[dart];
            }
        }
    }

    /** Heights, currents and places of a READY net. */
    private static final class Flow {
        private static final int ROW = MOST_KNOTS + 1;
        private static final int MOST_STEPS = 100;

        final long[] rows = new long[MOST_KNOTS * ROW];
        final int[] heightOf = new int[MOST_KNOTS];
        final int[] currentOf = new int[MOST_WIRES];
        final int[] placeOf = new int[MOST_DARTS];
        final boolean[] isPlaced = new boolean[MOST_DARTS];
        int wide = 0;
        int high = 0;
        long treeCount = 0;

        void solve(Net net, FaceMap map) {
            if (!net.isWire(net.power)) {
                return;
            }
            writeRows(net);
            eliminate(net.knots);
            takeHeights(net.knots);
            takeCurrents(net);
            high = heightOf[net.first[net.power]];
            placeFaces(net, map);
        }

        /**
         * One row a knot: what flows out of it for given heights; the last column is what is sent in.
         * The row of the pole at the height 0 only says so, which leaves the determinant at TREES.
         */
        private void writeRows(Net net) {
            for (int i = 0; i < MOST_KNOTS * ROW; i++) {
                rows[i] = 0;
            }
            for (int w = 0; w < net.wires; w++) {
                if (net.isPlain(w)) {
                    writeWire(net.first[w], net.second[w]);
                }
            }
            int ground = net.second[net.power];
            for (int k = 0; k < net.knots; k++) {
                rows[ground * ROW + k] = 0;
                rows[k * ROW + ground] = 0;
            }
            rows[ground * ROW + ground] = 1;
            rows[net.first[net.power] * ROW + net.knots] = 1;
        }

        private void writeWire(int a, int b) {
            rows[a * ROW + a]++;
            rows[b * ROW + b]++;
            rows[a * ROW + b]--;
            rows[b * ROW + a]--;
        }

        /**
         * Elimination without fractions: each number in it is a minor of the rows, so each division
         * leaves no rest, and none is above the number of ways to take wires out of 21 (352716).
         * No pivot is 0 while the PLAIN wires hang all knots together.
         */
        private void eliminate(int size) {
            long before = 1;
            for (int p = 0; p < size; p++) {
                long pivot = rows[p * ROW + p];
                for (int r = 0; r < size; r++) {
                    if (r != p) {
                        reduceRow(r, p, size, before);
                    }
                }
                before = pivot;
            }
            treeCount = before;
        }

        private void reduceRow(int r, int p, int size, long before) {
            if (before == 0) {
                return;
            }
            long pivot = rows[p * ROW + p];
            long factor = rows[r * ROW + p];
            for (int c = 0; c <= size; c++) {
                rows[r * ROW + c] = (pivot * rows[r * ROW + c] - factor * rows[p * ROW + c]) / before;
            }
        }

        /** Wires hang all knots together, so what divides all heights is what divides all currents. */
        private void takeHeights(int knots) {
            long divisor = 0;
            for (int k = 0; k < knots; k++) {
                divisor = commonDivisor(divisor, rows[k * ROW + knots]);
            }
            for (int k = 0; k < knots; k++) {
                heightOf[k] = divisor == 0 ? 0 : (int) (rows[k * ROW + knots] / divisor);
            }
        }

        private void takeCurrents(Net net) {
            int top = net.first[net.power];
            wide = 0;
            for (int w = 0; w < net.wires; w++) {
                int a = net.first[w];
                int b = net.second[w];
                currentOf[w] = net.isPlain(w) ? heightOf[a] - heightOf[b] : 0;
                if (a == top) {
                    wide += currentOf[w];
                } else if (b == top) {
                    wide -= currentOf[w];
                }
            }
        }

        /** Each round places a face at least, for without the battery the faces still hang together. */
        private void placeFaces(Net net, FaceMap map) {
            for (int f = 0; f < map.howMany; f++) {
                isPlaced[f] = false;
            }
            placeOf[map.leftOf(net.power)] = 0;
            isPlaced[map.leftOf(net.power)] = true;
            for (int round = 0; round < map.howMany; round++) {
                for (int w = 0; w < net.wires; w++) {
                    if (w != net.power) {
                        placeAcross(map.rightOf(w), map.leftOf(w), currentOf[w]);
                    }
                }
            }
        }

        private void placeAcross(int right, int left, int more) {
            if (isPlaced[right] && !isPlaced[left]) {
                placeOf[left] = placeOf[right] + more;
                isPlaced[left] = true;
            } else if (isPlaced[left] && !isPlaced[right]) {
                placeOf[right] = placeOf[left] - more;
                isPlaced[right] = true;
            }
        }

        /** Euclid's way halves a number in two steps, so the bound is never met. */
        static long commonDivisor(long a, long b) {
            long more = Math.abs(a);
            long less = Math.abs(b);
            for (int step = 0; step < MOST_STEPS && less != 0; step++) {
                long rest = more % less;
                more = less;
                less = rest;
            }
            return more;
        }
    }

    /** Rows of LEFT, LOW and side. */
    private static final class Squares {
        final int[] left = new int[MOST_TOLD];
        final int[] low = new int[MOST_TOLD];
        final int[] side = new int[MOST_TOLD];
        int howMany = 0;

        static boolean canBe(int what, int v) {
            return v >= (what == 2 ? 1 : 0) && v <= MOST_LENGTH;
        }

        void add(int itsLeft, int itsLow, int itsSide) {
            if (howMany < MOST_TOLD) {
                left[howMany] = itsLeft;
                low[howMany] = itsLow;
                side[howMany] = itsSide;
                howMany++;
            }
        }

        void takeFrom(Squares other) {
            howMany = other.howMany;
            System.arraycopy(other.left, 0, left, 0, MOST_TOLD);
            System.arraycopy(other.low, 0, low, 0, MOST_TOLD);
            System.arraycopy(other.side, 0, side, 0, MOST_TOLD);
        }

        int tellOne(int i, int what) {
            return what == 0 ? left[i] : what == 1 ? low[i] : side[i];
        }

        void setOne(int i, int what, int v) {
            if (what == 0) {
                left[i] = v;
            } else if (what == 1) {
                low[i] = v;
            } else {
                side[i] = v;
            }
        }

        int right(int i) {
            return left[i] + side[i];
        }

        int top(int i) {
            return low[i] + side[i];
        }

        boolean covers(int i, int x, int y) {
            return left[i] <= x && x < right(i) && low[i] <= y && y < top(i);
        }

        boolean overlap(int i, int j) {
            return left[i] < right(j) && left[j] < right(i) && low[i] < top(j) && low[j] < top(i);
        }

        int findFault(int w, int h) {
            for (int i = 0; i < howMany; i++) {
                if (right(i) > w || top(i) > h) {
                    return 100 + i;
                }
            }
            for (int i = 0; i < howMany; i++) {
                for (int j = i + 1; j < howMany; j++) {
                    if (overlap(i, j)) {
                        return 1000 + 30 * i + j;
                    }
                }
            }
            return area() == (long) w * h ? 0 : 3;
        }

        /** Squares that neither stand out nor overlap cover a rectangle just when they are as large. */
        private long area() {
            long sum = 0;
            for (int i = 0; i < howMany; i++) {
                sum += (long) side[i] * side[i];
            }
            return sum;
        }
    }

    /** The squares of a READY net, by rising numbers of their wires. */
    private static final class Laying {
        final Squares squares = new Squares();
        final int[] wireOf = new int[MOST_TOLD];
        boolean hasIdleWire = false;
        int innerSet = 0;
        int innerSize = 0;
        int innerLeft = 0;
        int innerLow = 0;
        int innerWide = 0;

        void build(Net net, FaceMap map, Flow flow) {
            squares.howMany = 0;
            hasIdleWire = false;
            for (int w = 0; w < net.wires; w++) {
                if (net.isPlain(w) && flow.currentOf[w] == 0) {
                    hasIdleWire = true;
                } else if (net.isPlain(w) && squares.howMany < MOST_TOLD) {
                    wireOf[squares.howMany] = w;
                    squares.add(Math.min(flow.placeOf[map.leftOf(w)], flow.placeOf[map.rightOf(w)]),
                            Math.min(flow.heightOf[net.first[w]], flow.heightOf[net.second[w]]),
                            Math.abs(flow.currentOf[w]));
                }
            }
        }

        int squareOfWire(int w) {
            for (int s = 0; s < squares.howMany; s++) {
                if (wireOf[s] == w) {
                    return s;
                }
            }
            return NONE;
        }

        int wireOnUnit(int x, int y) {
            for (int s = 0; s < squares.howMany; s++) {
                if (squares.covers(s, x, y)) {
                    return wireOf[s];
                }
            }
            return NONE;
        }

        boolean isPerfect() {
            for (int s = 0; s < squares.howMany; s++) {
                for (int t = s + 1; t < squares.howMany; t++) {
                    if (squares.side[s] == squares.side[t]) {
                        return false;
                    }
                }
            }
            return !hasIdleWire;
        }

        /** A rectangle of squares has one of them in its lower left corner, one in its upper right. */
        void seekLeastInner() {
            innerSet = 0;
            innerSize = 0;
            for (int s = 0; s < squares.howMany; s++) {
                for (int t = 0; t < squares.howMany; t++) {
                    if (squares.left[s] < squares.right(t) && squares.low[s] < squares.top(t)) {
                        considerInner(s, t);
                    }
                }
            }
        }

        private void considerInner(int s, int t) {
            int left = squares.left[s];
            int low = squares.low[s];
            int wide = squares.right(t) - left;
            int set = setBetween(left, low, squares.right(t), squares.top(t));
            int size = Integer.bitCount(set);
            if (size >= 2 && size < squares.howMany && isLesserInner(size, left, low, wide)) {
                innerSet = set;
                innerSize = size;
                innerLeft = left;
                innerLow = low;
                innerWide = wide;
            }
        }

        /** Empty when a square stands astride the border: then no squares make this rectangle. */
        private int setBetween(int left, int low, int right, int top) {
            int set = 0;
            for (int s = 0; s < squares.howMany; s++) {
                boolean isApart = squares.right(s) <= left || squares.left[s] >= right
                        || squares.top(s) <= low || squares.low[s] >= top;
                boolean isInside = squares.left[s] >= left && squares.right(s) <= right
                        && squares.low[s] >= low && squares.top(s) <= top;
                if (!isApart && !isInside) {
                    return 0;
                }
                set |= isInside ? 1 << s : 0;
            }
            return set;
        }

        private boolean isLesserInner(int size, int left, int low, int wide) {
            if (innerSize == 0 || size != innerSize) {
                return innerSize == 0 || size < innerSize;
            }
            if (left != innerLeft) {
                return left < innerLeft;
            }
            return low != innerLow ? low < innerLow : wide < innerWide;
        }

        int innerWire(int i) {
            int seen = 0;
            for (int s = 0; s < squares.howMany; s++) {
                if ((innerSet >> s & 1) == 1) {
                    if (seen == i) {
                        return wireOf[s];
                    }
                    seen++;
                }
            }
            return NONE;
        }
    }

    /** The lines of squares that fit; edge 2 i is the upper one of square i, 2 i + 1 the lower one. */
    private static final class Lines {
        final int[] order = new int[2 * MOST_TOLD];
        final int[] lineOf = new int[2 * MOST_TOLD];
        int howMany = 0;

        void find(Squares squares) {
            sortEdges(squares);
            howMany = 0;
            int level = 0;
            int reach = 0;
            for (int n = 0; n < 2 * squares.howMany; n++) {
                int edge = order[n];
                int i = edge >> 1;
                if (n == 0 || levelOf(squares, edge) != level || squares.left[i] > reach) {
                    howMany++;
                    level = levelOf(squares, edge);
                    reach = squares.right(i);
                }
                reach = Math.max(reach, squares.right(i));
                lineOf[edge] = howMany - 1;
            }
        }

        /** From the greatest height down, then by rising LEFT: the order in which lines become knots. */
        private void sortEdges(Squares squares) {
            for (int edge = 0; edge < 2 * squares.howMany; edge++) {
                int spot = edge;
                for (; spot > 0 && isEarlier(squares, edge, order[spot - 1]); spot--) {
                    order[spot] = order[spot - 1];
                }
                order[spot] = edge;
            }
        }

        private static boolean isEarlier(Squares squares, int edge, int other) {
            int level = levelOf(squares, edge);
            int otherLevel = levelOf(squares, other);
            return level != otherLevel ? level > otherLevel
                    : squares.left[edge >> 1] < squares.left[other >> 1];
        }

        private static int levelOf(Squares squares, int edge) {
            return (edge & 1) == 0 ? squares.top(edge >> 1) : squares.low[edge >> 1];
        }

        void makeNet(Squares squares, Net net) {
            net.makeEmpty();
            for (int line = 0; line < howMany && line < MOST_KNOTS; line++) {
                net.addKnot();
            }
            for (int i = 0; i < squares.howMany; i++) {
                net.addWire(lineOf[2 * i], lineOf[2 * i + 1]);
            }
            net.power = net.addWire(0, howMany - 1);
            for (int k = 0; k < net.knots; k++) {
                layTurn(squares, net, k);
            }
        }

        private void layTurn(Squares squares, Net net, int k) {
            int edges = 2 * squares.howMany;
            for (int n = 0; n < edges; n++) {
                if (lineOf[order[n]] == k && (order[n] & 1) == 0) {
                    net.addToTurn(k, order[n] >> 1);
                }
            }
            if (net.endsAt(net.power, k)) {
                net.addToTurn(k, net.power);
            }
            for (int n = edges - 1; n >= 0; n--) {
                if (lineOf[order[n]] == k && (order[n] & 1) == 1) {
                    net.addToTurn(k, order[n] >> 1);
                }
            }
        }
    }
}
