import java.util.function.Supplier;

/** Compares answers with what is due, prints each that differs, and ends the test. */
final class Checks {
    private int right = 0;
    private int wrong = 0;

    /** An answer as a text: numbers as they are, exceptions as "throws.Name". */
    static String answer(Supplier<Object> call) {
        try {
            return String.valueOf(call.get());
        } catch (RuntimeException e) {
            return "throws." + e.getClass().getSimpleName();
        }
    }

    void due(String what, Object want, Supplier<Object> call) {
        String got = answer(call);
        if (got.equals(String.valueOf(want))) {
            right++;
        } else {
            wrong++;
            System.out.println(what + ": answered " + got + ", due is " + want);
        }
    }

    void missing(String what, Supplier<Object> call) {
        due(what, "throws.NoSuchElementException", call);
    }

    void refused(String what, Supplier<Object> call) {
        due(what, "throws.IllegalArgumentException", call);
    }

    void illState(String what, Supplier<Object> call) {
        due(what, "throws.IllegalStateException", call);
    }

    int wrong() {
        return wrong;
    }

    void finish(String test) {
        System.out.println(test + ": " + right + " answers as due, " + wrong + " not");
        if (wrong != 0) {
            System.exit(1);
        }
    }
}
