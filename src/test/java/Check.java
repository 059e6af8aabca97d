/** Compares answers with the due ones, prints those that differ, and ends a test with its exit code. */
final class Check {
    /** A call whose answer, or whose exception, is looked at. */
    interface Call {
        long answer();
    }

    private static int wrong = 0;
    private static int looked = 0;
    private static String about = "";

    private Check() {
    }

    /** Runs the test of one sentence of the document; what goes wrong in it is told with its words. */
    static void sentence(String words, Runnable test) {
        int lookedBefore = looked;
        about = "[" + words + "] ";
        try {
            test.run();
        } catch (RuntimeException e) {
            tellWrong("the test threw " + e);
        }
        if (looked == lookedBefore) {
            tellWrong("the test looked at nothing");
        }
        about = "";
    }

    static void same(String what, long got, long due) {
        looked++;
        if (got != due) {
            tellWrong(what + " answered " + got + ", due is " + due);
        }
    }

    static void holds(String what, boolean isTrue) {
        looked++;
        if (!isTrue) {
            tellWrong(what + ": this does not hold");
        }
    }

    static void answers(String what, long due, Call call) {
        long got;
        try {
            got = call.answer();
        } catch (RuntimeException e) {
            looked++;
            tellWrong(what + " threw " + e + ", due is " + due);
            return;
        }
        same(what, got, due);
    }

    /** The very class is due: a subclass would be an exception of the machine's. */
    static void fails(String what, Class<? extends RuntimeException> due, Call call) {
        looked++;
        String got;
        try {
            got = "answered " + call.answer();
        } catch (RuntimeException e) {
            if (e.getClass() == due) {
                return;
            }
            got = "threw " + e;
        }
        tellWrong(what + " " + got + ", due is " + due.getName());
    }

    private static void tellWrong(String text) {
        wrong++;
        System.out.println(about + text);
    }

    static void end() {
        System.out.println(looked + " answers looked at, " + wrong + " not as due");
        if (wrong != 0 || looked == 0) {
            System.exit(1);
        }
    }
}
