import java.util.Map;
import java.util.TreeMap;

/** All of an object that can be asked, part by part. The asking uses the object up, so it comes last. */
final class State {
    private static final String[] KINDS = {"plain", "cut", "battery"};

    private State() {
    }

    /** Reads "knot 0: [5 0 1] at 20", "wire 3: 1-3 plain 13", "told 0: 1 2 3", "battery: 5". */
    static void readNow(SquareTiler x, Map<String, String> parts) {
        readNet(x, "", parts);
        int told = x.count(2);
        parts.put("told", "" + told);
        for (int i = 0; i < told; i++) {
            parts.put("told " + i, x.alter(i, 0, 1) + " " + x.alter(i, 1, 1) + " " + x.alter(i, 2, 1));
        }
    }

    /** Reads the same of the net that is kept, each part with "kept" ahead of it; "kept: nothing" if none is. */
    static void readKept(SquareTiler x, Map<String, String> parts) {
        int wires = x.back();
        parts.put("kept", wires == SquareTiler.NO ? "nothing" : wires + " wires");
        if (wires != SquareTiler.NO) {
            readNet(x, "kept ", parts);
        }
    }

    private static void readNet(SquareTiler x, String ahead, Map<String, String> parts) {
        parts.put(ahead + "battery", "" + x.count(3));
        int knots = x.count(0);
        for (int k = 0; k < knots; k++) {
            parts.put(ahead + "knot " + k, turnOf(x, k) + " at " + x.raise(k, 0));
        }
        int wires = x.count(1);
        for (int w = 0; w < wires; w++) {
            int kind = x.of(w, 2);
            String name = kind >= 0 && kind < KINDS.length ? KINDS[kind] : "kind " + kind;
            parts.put(ahead + "wire " + w, x.of(w, 0) + "-" + x.of(w, 1) + " " + name + " " + x.claim(w, 0));
        }
    }

    private static String turnOf(SquareTiler x, int k) {
        StringBuilder row = new StringBuilder("[");
        int wire = x.turn(k, 0);
        for (int i = 1; i < 24 && wire != -1; i++) {
            row.append(i == 1 ? "" : " ").append(wire);
            wire = x.turn(k, i);
        }
        return row.append("]").toString();
    }

    /** "knot 2: [] at 0" for each part that is new or other than it was, "no knot 2" for each that is gone. */
    static Map<String, String> changes(Map<String, String> before, Map<String, String> after) {
        Map<String, String> all = new TreeMap<>();
        for (Map.Entry<String, String> part : after.entrySet()) {
            if (!part.getValue().equals(before.get(part.getKey()))) {
                all.put(part.getKey(), part.getKey() + ": " + part.getValue());
            }
        }
        for (String key : before.keySet()) {
            if (!after.containsKey(key)) {
                all.put(key, "no " + key);
            }
        }
        return all;
    }
}
