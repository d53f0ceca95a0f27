/** Counts what is not as due, and ends a test with exit code 1 if there was any. */
final class Checks {
    interface Question {
        Object answer();
    }

    static final Class<?> ARGUMENT = IllegalArgumentException.class;
    static final Class<?> STATE = IllegalStateException.class;
    static final Class<?> INDEX = IndexOutOfBoundsException.class;
    static final Class<?> ELEMENT = java.util.NoSuchElementException.class;
    static final Class<?> ARITHMETIC = ArithmeticException.class;
    static final Class<?> REFUSED = UnsupportedOperationException.class;

    private final String test;
    private int wrong;
    private int asked;

    Checks(String test) {
        this.test = test;
    }

    /** What is due is an answer, or the class of an exception. */
    void due(String what, Object want, Question question) {
        asked++;
        Object got = answerOf(question);
        if (!want.equals(got)) {
            wrong++;
            System.out.println(test + ": " + what + " answered " + got + ", due is " + want);
        }
    }

    static Object answerOf(Question question) {
        try {
            return question.answer();
        } catch (RuntimeException thrown) {
            return thrown.getClass();
        }
    }

    void end() {
        System.out.println(test + ": " + asked + " checks, " + wrong + " not as due");
        if (wrong > 0) {
            System.exit(1);
        }
    }
}
