/** Counts answers that are not as due, and tells texts to an object. */
final class Check {
    private static int wrong = 0;
    private static int asked = 0;

    private Check() {
    }

    static void due(String call, long got, long want) {
        asked++;
        if (got != want) {
            wrong++;
            if (wrong <= 50) {
                System.out.println(call + " answered " + got + ", due is " + want);
            }
        }
    }

    static void due(String call, boolean got, boolean want) {
        due(call, got ? 1 : 0, want ? 1 : 0);
    }

    static void due(String call, String got, String want) {
        due(call + ": " + got, got.equals(want), true);
    }

    static int wrongSoFar() {
        return wrong;
    }

    static int askedSoFar() {
        return asked;
    }

    /** Ends the test: with exit code 1 if an answer was wrong, or if none was asked for. */
    static void close() {
        System.out.println(asked + " answers, " + wrong + " not as due");
        if (wrong != 0 || asked == 0) {
            System.exit(1);
        }
    }

    /** Five numbers from a place of a text on, with blanks behind its end. */
    static int[] fiveFrom(String text, int from) {
        int[] five = new int[5];
        for (int i = 0; i < 20; i++) {
            int at = from + i;
            five[i / 4] = five[i / 4] << 8 | (at < text.length() ? text.charAt(at) & 255 : 32);
        }
        return five;
    }

    static void feed(WeepingPiano x, String text) {
        int before = 0;
        for (int from = 0; from < text.length(); from += 20) {
            int[] v = fiveFrom(text, from);
            before = x.feed(v[0], v[1], v[2], v[3], v[4]);
        }
        x.end(text.length());
    }

    static int tell(WeepingPiano x, int k, String text) {
        feed(x, text);
        return x.text(k);
    }

    /** A text that must be refused with a fault at a place. */
    static void faulty(WeepingPiano x, int k, String text, int fault, int place) {
        due("text(" + k + ") of '" + text + "'", tell(x, k, text), -1);
        due("fault(0) of '" + text + "'", x.fault(0), fault);
        due("fault(1) of '" + text + "'", x.fault(1), place);
    }
}
