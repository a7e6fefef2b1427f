import java.util.function.Supplier;

/** Compares answers with those that are due, and counts the wrong ones. */
final class Due {
    private int checked;
    private int wrong;
    private String sentence = "";

    /** The sentence of the document that the answers from here on are held against. */
    void sentence(String said) {
        sentence = said + " | ";
    }

    /** One part of a test: if it ends by an exception, that is wrong, and the other parts go on. */
    void part(Runnable part) {
        sentence = "";
        try {
            part.run();
        } catch (RuntimeException e) {
            same("the part", "ended by " + e + " at " + e.getStackTrace()[0], "came to its end");
        }
    }

    void same(String what, Object got, Object want) {
        checked++;
        if (!want.equals(got)) {
            wrong++;
            if (wrong <= 40) {
                System.out.println(sentence + what + " answered " + got + ", due is " + want);
            }
        }
    }

    void same(String what, long got, long want) {
        same(what, Long.valueOf(got), Long.valueOf(want));
    }

    /** Exactly this exception: one that the machine throws is of another class. */
    void thrown(String what, Class<? extends RuntimeException> want, Supplier<Object> call) {
        String got;
        try {
            got = "the answer " + call.get();
        } catch (RuntimeException e) {
            got = e.getClass().getName();
        }
        same(what, got, want.getName());
    }

    /** The same answer of both, or exactly the same kind of exception. */
    void alike(String what, Supplier<Object> call, Supplier<Object> oracle) {
        same(what, told(call), told(oracle));
    }

    private static Object told(Supplier<Object> call) {
        try {
            return call.get();
        } catch (RuntimeException e) {
            return e.getClass();
        }
    }

    int wrong() {
        return wrong;
    }

    /** Ends the test program: with exit code 1 if an answer was wrong. */
    void end() {
        System.out.println(checked + " answers looked at, " + wrong + " wrong");
        System.exit(wrong == 0 && checked > 0 ? 0 : 1);
    }
}
