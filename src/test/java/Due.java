/** Holds answers against what is due, and ends a test. */
final class Due {
    private static int asked = 0;
    private static int wrong = 0;
    private static String under = "";

    private Due() {
    }

    /** What the next answers belong to. */
    static void under(String place) {
        under = place;
    }

    static int asked() {
        return asked;
    }

    static void is(String call, long got, long want) {
        asked++;
        if (got != want) {
            wrong++;
            if (wrong <= 40) {
                System.out.println(under + call + " answered " + got + ", due is " + want);
            }
        }
    }

    static void is(String call, boolean got, boolean want) {
        is(call, got ? 1 : 0, want ? 1 : 0);
    }

    static void yes(String call, boolean got) {
        is(call, got, true);
    }

    static void no(String call, boolean got) {
        is(call, got, false);
    }

    static void end() {
        System.out.println(asked + " answers, " + wrong + " of them not as due");
        if (wrong != 0 || asked == 0) {
            System.exit(1);
        }
    }
}
