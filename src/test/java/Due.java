/** Compares answers with those that are due, and makes squares for the tests. */
final class Due {
    private static int wrong = 0;
    private static int asked = 0;

    private Due() {
    }

    static void is(String what, long got, long want) {
        asked++;
        if (got != want) {
            wrong++;
            System.out.println(what + " answered " + got + ", due is " + want);
        }
    }

    /** Ends a test's main: by exit code 1, if an answer was not as due. */
    static void end() {
        System.out.println(asked + " answers, " + wrong + " not as due");
        if (wrong > 0) {
            System.exit(1);
        }
    }

    static void type(QuarrelWindows windows, String text) {
        for (char letter : text.toCharArray()) {
            windows.letter(letter);
        }
    }

    static QuarrelWindows square(String text) {
        QuarrelWindows windows = new QuarrelWindows();
        type(windows, text);
        if (windows.square() < 3) {
            is("square of " + text, 0, 1);
        }
        return windows;
    }

    static void mornings(QuarrelWindows windows, int mornings) {
        for (int morning = 0; morning < mornings; morning++) {
            windows.morning();
        }
    }

    /** Does all that a refusal must not change show the same behind it? */
    static void refuses(String what, QuarrelWindows windows, Call call, int refusal) {
        long before = windows.digest();
        is(what, call.ask(windows), refusal);
        is("digest behind " + what, windows.digest(), before);
    }

    interface Call {
        int ask(QuarrelWindows windows);
    }
}
