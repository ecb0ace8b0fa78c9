/** Compares answers with those that are due, and ends a test. */
final class Due {
    private static int wrong = 0;
    private static int asked = 0;
    private static String sentence = "";

    private Due() {
    }

    /** The sentence of the document that the answers behind this call hold; told with each wrong one. */
    static void says(String words) {
        sentence = "\"" + words + "\": ";
    }

    static void is(String call, long want, long got) {
        asked++;
        if (got != want) {
            wrong++;
            if (wrong <= 50) {
                System.out.println(sentence + call + " answered " + got + ", due is " + want);
            }
        }
    }

    /** A fraction: what is above and what is below. */
    static void part(String call, long above, long below, long gotAbove, long gotBelow) {
        is(call + ", above", above, gotAbove);
        is(call + ", below", below, gotBelow);
    }

    static void is(String call, boolean holds) {
        is(call, 1, holds ? 1 : 0);
    }

    /** A new object with a text written and laid. */
    static StileCounts laid(String text) {
        StileCounts x = new StileCounts();
        write(x, text);
        is("lay() of " + text, true, x.lay() > 0);
        return x;
    }

    private static void is(String call, boolean want, boolean got) {
        is(call, want ? 1 : 0, got ? 1 : 0);
    }

    /** Laid, and so many stretches walked. */
    static StileCounts walked(String text, int stretches) {
        StileCounts x = laid(text);
        for (int k = 1; k <= stretches; k++) {
            is("walk() of " + text, k, x.walk());
        }
        return x;
    }

    static void write(StileCounts x, String text) {
        for (int i = 0; i < text.length(); i++) {
            x.write(text.charAt(i));
        }
    }

    /** THE TEXT is this one, and no other letter. */
    static void rewrite(StileCounts x, String text) {
        x.wipe();
        write(x, text);
    }

    static int asked() {
        return asked;
    }

    static boolean anyWrong() {
        return wrong != 0;
    }

    static void end() {
        System.out.println(asked + " answers, " + wrong + " wrong");
        if (wrong != 0) {
            System.exit(1);
        }
    }
}
