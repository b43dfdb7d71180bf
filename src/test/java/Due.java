import java.util.ArrayList;
import java.util.List;

/** Compares answers with those that are due, and makes squares for the tests. */
final class Due {
    private static int wrong = 0;
    private static int asked = 0;
    private static String tried = "";

    private Due() {
    }

    /** From here on it is tried whether this sentence of this promise holds. */
    static void promise(int number, String sentence) {
        tried = "promise " + number + " (" + sentence + "): ";
    }

    static void is(String what, long got, long want) {
        asked++;
        if (got != want) {
            wrong++;
            System.out.println(tried + what + " answered " + got + ", due is " + want);
        }
    }

    /** Ends a test's main: by exit code 1, if an answer was not as due. */
    static void end() {
        System.out.println(asked + " answers, " + wrong + " not as due");
        if (wrong > 0) {
            System.exit(1);
        }
    }

    static void type(QuarrelWindows windows, String text) {
        for (char letter : text.toCharArray()) {
            windows.letter(letter);
        }
    }

    static QuarrelWindows page(String text) {
        QuarrelWindows windows = new QuarrelWindows();
        type(windows, text);
        return windows;
    }

    static QuarrelWindows square(String text) {
        QuarrelWindows windows = page(text);
        if (windows.square() < 3) {
            is("square of " + text, 0, 1);
        }
        return windows;
    }

    static void mornings(QuarrelWindows windows, int mornings) {
        for (int morning = 0; morning < mornings; morning++) {
            windows.morning();
        }
    }

    /** A call is refused, and behind it the object tells the same as one that was never so asked. */
    static void refuses(String what, Made made, Call call, int refusal) {
        QuarrelWindows refusing = made.make();
        is(what, call.ask(refusing), refusal);
        alike("behind " + what, refusing, made.make());
    }

    /** For a longer run: does all that the digest tells stay the same? */
    static void refusesNow(String what, QuarrelWindows windows, Call call, int refusal) {
        long before = windows.digest();
        is(what, call.ask(windows), refusal);
        is("digest behind " + what, windows.digest(), before);
    }

    /** Do both tell the same, in what is and in what is kept? They are of no use behind it. */
    static void alike(String what, QuarrelWindows one, QuarrelWindows other) {
        List<Long> told = telling(one);
        List<Long> due = telling(other);
        for (int at = 0; at < Math.max(told.size(), due.size()); at++) {
            long got = at < told.size() ? told.get(at) : Long.MIN_VALUE;
            long want = at < due.size() ? due.get(at) : Long.MIN_VALUE;
            is(what + ", number " + at + " of what it tells", got, want);
        }
    }

    private static List<Long> telling(QuarrelWindows windows) {
        List<Long> told = new ArrayList<>();
        tellNow(windows, told);
        told.add((long) windows.restore());
        tellNow(windows, told);
        return told;
    }

    /** What is seen stands in no digest but by span(); so the spans of all pairs are told, too. */
    private static void tellNow(QuarrelWindows windows, List<Long> told) {
        told.add(windows.digest());
        int houses = windows.count(0);
        for (int a = 0; a < houses; a++) {
            for (int b = 0; b < houses; b++) {
                for (int what = 0; what < 4; what++) {
                    told.add((long) windows.span(a, b, what));
                }
            }
        }
    }

    interface Made {
        QuarrelWindows make();
    }

    interface Call {
        int ask(QuarrelWindows windows);
    }
}
