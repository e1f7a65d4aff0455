/** Counts the answers that are not as due, and prints each of them. */
final class Due {
    private static final int MOST_PRINTED = 40;
    private static int asked = 0;
    private static int wrong = 0;

    private Due() {
    }

    static void due(String call, long got, long want) {
        asked++;
        if (got != want) {
            wrong++;
            if (wrong <= MOST_PRINTED) {
                System.out.println(call + " answered " + got + ", due is " + want);
            }
        }
    }

    static void dueText(String what, String got, String want) {
        asked++;
        if (!got.equals(want)) {
            wrong++;
            if (wrong <= MOST_PRINTED) {
                System.out.println(what + " " + got + ", due is " + want);
            }
        }
    }

    static void dueTurn(SquareTiler x, int k, int... wires) {
        for (int i = 0; i < wires.length; i++) {
            due("turn(" + k + ", " + i + ")", x.turn(k, i), wires[i]);
        }
        due("turn(" + k + ") has no more", x.turn(k, wires.length), -1);
    }

    static void dueEnds(SquareTiler x, int w, int a, int b) {
        due("of(" + w + ", 0)", x.of(w, 0), a);
        due("of(" + w + ", 1)", x.of(w, 1), b);
    }

    static int wrongSoFar() {
        return wrong;
    }

    static void finish(String test) {
        System.out.println(test + ": " + asked + " answers, " + wrong + " not as due");
        if (wrong != 0 || asked == 0) {
            System.exit(1);
        }
    }
}
