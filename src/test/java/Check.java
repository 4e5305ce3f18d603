/** Counts the answers that are not as due, and ends the test. */
final class Check {
    interface Call {
        Object answer();
    }

    private int asked = 0;
    private int bad = 0;

    void due(String call, Object got, Object want) {
        asked++;
        if (!got.equals(want)) {
            bad++;
            System.out.println(call + " answered " + got + ", due is " + want);
        }
    }

    /** The exception must be of this very class, not of one below it. */
    void dueThrow(String name, Call call, Class<? extends RuntimeException> want) {
        String got;
        try {
            got = "the answer " + call.answer();
        } catch (RuntimeException e) {
            got = e.getClass().getName();
        }
        due(name, got, want.getName());
    }

    boolean failed() {
        return bad > 0;
    }

    void end() {
        System.out.println(bad == 0 ? asked + " answers are as due" : bad + " of " + asked + " answers are not as due");
        if (bad > 0) {
            System.exit(1);
        }
    }
}
