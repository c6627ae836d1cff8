import java.util.function.BooleanSupplier;
import java.util.function.IntSupplier;

/** Compares answers with those that are due, tells each wrong one by its line, and ends the test. */
final class Check {
    private static int wrong = 0;
    private static int done = 0;
    private static String sentence = "";
    private static int doneBefore = 0;

    private Check() {
    }

    /** The answers from here on are due by this sentence of the document. */
    static void says(String words) {
        closeSentence();
        sentence = words;
        doneBefore = done;
    }

    static void is(int want, IntSupplier call) {
        compare(Integer.toString(want), answer(call));
    }

    static void yes(BooleanSupplier call) {
        is(1, () -> call.getAsBoolean() ? 1 : 0);
    }

    static void no(BooleanSupplier call) {
        is(0, () -> call.getAsBoolean() ? 1 : 0);
    }

    static void fails(Class<? extends RuntimeException> want, IntSupplier call) {
        compare(want.getSimpleName(), answer(call));
    }

    static void same(String want, String got) {
        compare(want, got);
    }

    /** The answer of a call as a text, or the name of the exception that it throws. */
    static String answer(IntSupplier call) {
        try {
            return Integer.toString(call.getAsInt());
        } catch (RuntimeException e) {
            return e.getClass().getSimpleName();
        }
    }

    static void end() {
        closeSentence();
        System.out.println(done + " answers looked at, " + wrong + " not as due");
        if (wrong != 0 || done == 0) {
            System.exit(1);
        }
    }

    private static void closeSentence() {
        if (!sentence.isEmpty() && done == doneBefore) {
            wrong++;
            System.out.println("no answer was looked at for: " + sentence);
        }
    }

    private static void compare(String want, String got) {
        done++;
        if (!want.equals(got)) {
            wrong++;
            System.out.println(place() + ": answered " + got + ", due is " + want
                    + (sentence.isEmpty() ? "" : ", by \"" + sentence + "\""));
        }
    }

    private static String place() {
        return StackWalker.getInstance().walk(frames -> frames
                .filter(f -> !f.getClassName().equals("Check"))
                .findFirst()
                .map(f -> f.getFileName() + ":" + f.getLineNumber() + " (" + f.getMethodName() + ")")
                .orElse("?"));
    }
}
