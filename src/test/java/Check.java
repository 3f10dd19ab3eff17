import java.nio.charset.StandardCharsets;

/** What all tests share: due answers are counted, and texts are fed as the tape wants them. */
final class Check {
    private static int asked = 0;
    private static int wrong = 0;

    private Check() {
    }

    static void due(String what, int got, int want) {
        asked++;
        if (got != want) {
            wrong++;
            System.out.println(what + ": answered " + got + ", due is " + want);
        }
    }

    static void due(String what, boolean got, boolean want) {
        due(what, got ? 1 : 0, want ? 1 : 0);
    }

    /** Ends the test's program: with 1 if an answer was wrong. */
    static void finish() {
        System.out.println(asked + " answers, " + wrong + " wrong");
        if (wrong != 0) {
            System.exit(1);
        }
    }

    /** The text onto an empty tape, in twenties, its end cut to its length. */
    static void put(BallotFruit x, String text) {
        byte[] b = text.getBytes(StandardCharsets.ISO_8859_1);
        x.end(0);
        for (int i = 0; i < b.length; i += 20) {
            x.feed(four(b, i), four(b, i + 4), four(b, i + 8), four(b, i + 12), four(b, i + 16));
        }
        x.end(b.length);
    }

    static int tell(BallotFruit x, int k, String text) {
        put(x, text);
        return x.text(k);
    }

    /** The text is told; lines is NONE if a fault is due, else the fault is due to be 0. */
    static void dueText(BallotFruit x, int k, String text, int lines, int fault, int place) {
        due("text " + k + " '" + text + "'", tell(x, k, text), lines);
        due("fault of '" + text + "'", x.fault(0), fault);
        due("place in '" + text + "'", x.fault(1), place);
    }

    static int four(byte[] b, int from) {
        int v = 0;
        for (int i = from; i < from + 4; i++) {
            v = v << 8 | (i < b.length ? b[i] & 255 : 32);
        }
        return v;
    }
}
