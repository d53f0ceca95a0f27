/** Counts what is not as due, and ends a test with exit code 1 if there was any. */
final class Checks {
    interface Call {
        Object answer();
    }

    static final Class<?> ARGUMENT = IllegalArgumentException.class;
    static final Class<?> STATE = IllegalStateException.class;
    static final Class<?> INDEX = IndexOutOfBoundsException.class;
    static final Class<?> ELEMENT = java.util.NoSuchElementException.class;
    static final Class<?> ARITHMETIC = ArithmeticException.class;
    static final Class<?> REFUSED = UnsupportedOperationException.class;

    private final String test;
    private int wrong;
    private int asked;

    Checks(String test) {
        this.test = test;
    }

    /** What is due is an answer, or the class of an exception. */
    void due(String what, Object want, Call call) {
        asked++;
        Object got = answerOf(call);
        if (!want.equals(got)) {
            wrong++;
            System.out.println(test + ": " + what + " answered " + got + ", due is " + want);
        }
    }

    /** An exception that leaves the state as it was, the reasons too. */
    void fails(String what, Class<?> want, MouldFloor x, Call call) {
        String before = Floors.stateOf(x) + Floors.reasonsOf(x) + x.account(14) + " " + x.faultPosition();
        due(what, want, call);
        due(what + ", and then the state", before,
            () -> Floors.stateOf(x) + Floors.reasonsOf(x) + x.account(14) + " " + x.faultPosition());
    }

    /** A refusal that leaves the state as it was, with all its reasons as "10.0 11.60". */
    void refused(String what, String reasons, MouldFloor x, Call call) {
        String before = Floors.stateOf(x);
        due(what, REFUSED, call);
        due(what + ", and then the reasons", reasons, () -> Floors.reasonsOf(x));
        due(what + ", and then the state", before, () -> Floors.stateOf(x));
    }

    static Object answerOf(Call call) {
        try {
            return call.answer();
        } catch (RuntimeException thrown) {
            return thrown.getClass();
        }
    }

    void end() {
        System.out.println(test + ": " + asked + " checks, " + wrong + " not as due");
        if (wrong > 0) {
            System.exit(1);
        }
    }
}
