/** What a test awaits: it tells each answer that is not due, and ends with exit code 1 if there was one. */
final class Due {
    private static int told = 0;
    private static int wrong = 0;

    private Due() {
    }

    static void is(long want, long got, String what) {
        told++;
        if (got != want) {
            wrong++;
            System.out.println(what + " answered " + got + ", due is " + want);
        }
    }

    static void yes(boolean got, String what) {
        is(1, got ? 1 : 0, what);
    }

    static void no(boolean got, String what) {
        is(0, got ? 1 : 0, what);
    }

    /** The TAPE holds this text alone then. */
    static void tape(LeverCurtain curtain, String text) {
        yes(curtain.end(0), "end(0)");
        for (int i = 0; i < text.length(); i += 20) {
            int[] numbers = new int[5];
            int many = Math.min(20, text.length() - i);
            for (int j = 0; j < many; j++) {
                numbers[j / 4] |= text.charAt(i + j) << 24 - j % 4 * 8;
            }
            int fed = curtain.feed(numbers[0], numbers[1], numbers[2], numbers[3], numbers[4]);
            is(i + many, fed, "feed of " + text);
        }
    }

    static void end() {
        System.out.println(told + " answers, " + wrong + " not due");
        if (wrong != 0) {
            System.exit(1);
        }
    }
}
