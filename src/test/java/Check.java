/** Compares answers with the ones that are due, and ends a test with exit code 1 if one was wrong. */
final class Check {
    interface Call {
        long answer();
    }

    private int made;
    private int wrong;
    private String sentence = "";

    /** What a call answers, or throws. and the name of what it throws. */
    static String outcome(Call call) {
        try {
            return Long.toString(call.answer());
        } catch (RuntimeException e) {
            return "throws." + e.getClass().getSimpleName();
        }
    }

    /** Runs the test that is a sentence's own; what it finds wrong is told with the sentence. */
    void sentence(String words, Runnable test) {
        sentence = "[" + words + "] ";
        int before = made;
        try {
            test.run();
            yes("something is looked at", made > before);
        } catch (RuntimeException e) {
            same("the test", "an end", e.toString());
        }
        sentence = "";
    }

    void due(String what, long want, Call call) {
        same(what, Long.toString(want), outcome(call));
    }

    void yes(String what, boolean holds) {
        same(what, "true", Boolean.toString(holds));
    }

    void illegalArgument(String what, Call call) {
        same(what, "throws.IllegalArgumentException", outcome(call));
    }

    void illegalState(String what, Call call) {
        same(what, "throws.IllegalStateException", outcome(call));
    }

    void outOfBounds(String what, Call call) {
        same(what, "throws.IndexOutOfBoundsException", outcome(call));
    }

    boolean same(String what, String want, String got) {
        made++;
        if (want.equals(got)) {
            return true;
        }
        wrong++;
        System.out.println(sentence + what + " answered " + got + ", due is " + want);
        return false;
    }

    void end() {
        System.out.println(made + " answers looked at, " + wrong + " not as due");
        if (wrong != 0) {
            System.exit(1);
        }
    }
}
