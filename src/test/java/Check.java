/** Counts the answers that are not as due, names the document's sentence that they break, and ends the test. */
final class Check {
    interface Call {
        Object answer();
    }

    static final Class<ArrayIndexOutOfBoundsException> NO_INDEX = ArrayIndexOutOfBoundsException.class;
    static final Class<IllegalArgumentException> NO_ARGUMENT = IllegalArgumentException.class;
    static final Class<IndexOutOfBoundsException> NO_STEP = IndexOutOfBoundsException.class;

    private final String promise;
    private String sentence = "";
    private int asked = 0;
    private int bad = 0;

    Check(String promise) {
        this.promise = promise;
    }

    /** The words of the document that the answers from here on are due by. */
    void sentence(String words) {
        sentence = words;
    }

    void due(String call, Object got, Object want) {
        asked++;
        if (!got.equals(want)) {
            bad++;
            System.out.println(promise + " [" + sentence + "] " + call + " answered " + got + ", due is " + want);
        }
    }

    /** The exception must be of this very class, not of one below it. */
    void dueThrow(String name, Call call, Class<? extends RuntimeException> want) {
        due(name, outcome(call), want.getName());
    }

    /** The answer, or the name of the exception. */
    static Object outcome(Call call) {
        try {
            return call.answer();
        } catch (RuntimeException e) {
            return e.getClass().getName();
        }
    }

    boolean failed() {
        return bad > 0;
    }

    void end() {
        System.out.println(bad == 0 ? asked + " answers are as due" : bad + " of " + asked + " answers are not as due");
        if (bad > 0) {
            System.exit(1);
        }
    }
}
