import java.util.function.LongSupplier;

/** What a test is due: each answer that differs is printed, and the test ends with exit code 1 then. */
final class Due {
    private int wrong = 0;
    private int seen = 0;

    /** The answer of a call as a text: the number, or throws. and the exception's name. */
    static String answer(LongSupplier call) {
        try {
            return Long.toString(call.getAsLong());
        } catch (RuntimeException e) {
            return "throws." + e.getClass().getSimpleName();
        }
    }

    void same(String what, String got, String due) {
        seen++;
        if (!got.equals(due)) {
            wrong++;
            if (wrong <= 20) {
                System.out.println(what + " answered " + got + ", due is " + due);
            }
        }
    }

    int wrong() {
        return wrong;
    }

    void end() {
        if (wrong > 0) {
            System.out.println(wrong + " of " + seen + " answers are not as due");
            System.exit(1);
        }
    }
}
