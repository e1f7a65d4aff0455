import java.util.ArrayList;
import java.util.Arrays;
import java.util.Collections;
import java.util.List;
import java.util.Map;
import java.util.TreeMap;

/** One call on an object that is made anew each time: its answer, and all that it has changed. */
final class Edge {
    static final int NO = SquareTiler.NO;
    static final int MIN = Integer.MIN_VALUE;
    static final int MAX = Integer.MAX_VALUE;

    /** Makes the same object each time, so that it can be read before a call and behind it. */
    interface Made {
        SquareTiler make();
    }

    interface Call {
        long on(SquareTiler x);
    }

    private Edge() {
    }

    /** The call answers NO and changes nothing: not the net, claims, told squares, nor what is kept. */
    static void refused(String label, Made made, Call call) {
        takes(label, made, call, NO);
    }

    /** A question: it answers as due and changes nothing. */
    static void tells(String label, Made made, Call call, long want) {
        takes(label, made, call, want);
    }

    /**
     * The call answers as due and changes the parts that are named, as State tells them, and no others: on an object
     * that is new, and on one that has had another net before.
     */
    static void takes(String label, Made made, Call call, long want, String... changed) {
        for (boolean isUsed : new boolean[] {false, true}) {
            Nets.areUsed = isUsed;
            takesOnce(isUsed ? label + " (used before)" : label, made, call, want, changed);
        }
        Nets.areUsed = false;
    }

    private static void takesOnce(String label, Made made, Call call, long want, String... changed) {
        SquareTiler x = made.make();
        Due.due(label, call.on(x), want);
        if (changed.length == 0) {
            Due.due(label + " asked again", call.on(x), want);
        }
        List<String> due = new ArrayList<>(Arrays.asList(changed));
        List<String> got = new ArrayList<>(State.changes(read(made, y -> 0), read(made, call)).values());
        Collections.sort(due);
        Collections.sort(got);
        Due.dueText(label + " changes", got.toString(), due.toString());
    }

    private static Map<String, String> read(Made made, Call call) {
        Map<String, String> parts = new TreeMap<>();
        SquareTiler now = made.make();
        call.on(now);
        State.readNow(now, parts);
        SquareTiler other = made.make();
        call.on(other);
        State.readKept(other, parts);
        return parts;
    }

    /** Another object made as the first one, with a call more behind it. */
    static Made then(Made made, Call call) {
        return () -> {
            SquareTiler x = made.make();
            call.on(x);
            return x;
        };
    }
}
