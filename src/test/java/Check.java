/** Counts answers that are not the ones due, and ends a test as the form of tests asks. */
final class Check {
    private static int wrong = 0;
    private static int asked = 0;

    private Check() {
    }

    static void due(String call, long got, long want) {
        asked++;
        if (got != want) {
            wrong++;
            System.out.println(call + " answered " + got + ", due is " + want);
        }
    }

    static void fault(String words) {
        asked++;
        wrong++;
        System.out.println(words);
    }

    static boolean isWrong() {
        return wrong != 0;
    }

    static void end(String test) {
        System.out.println(test + ": " + asked + " answers, " + wrong + " not as due");
        if (wrong != 0) {
            System.exit(1);
        }
    }

    static void feed(MightHaveBeenPutUp x, String text) {
        for (int i = 0; i < text.length(); i++) {
            x.feed(text.charAt(i));
        }
    }

    static int text(MightHaveBeenPutUp x, String text) {
        feed(x, text);
        return x.text();
    }

    static long cells(int... cells) {
        long bits = 0;
        for (int cell : cells) {
            bits |= 1L << cell;
        }
        return bits;
    }
}
