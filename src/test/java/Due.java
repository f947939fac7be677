/** Counts the calls of a test whose answer is not the one that is due. */
final class Due {
    private int asked;
    private int wrong;

    void is(String what, long want, long got) {
        asked++;
        if (want != got) {
            wrong++;
            System.out.println(what + " answered " + got + ", due is " + want);
        }
    }

    void isTrue(String what, boolean got) {
        is(what, 1, got ? 1 : 0);
    }

    void isFalse(String what, boolean got) {
        is(what, 0, got ? 1 : 0);
    }

    /** Whether the call throws an exception of just that class. */
    void throwsA(Class<? extends Exception> kind, String what, Runnable call) {
        asked++;
        String got = "nothing";
        try {
            call.run();
        } catch (RuntimeException e) {
            if (e.getClass() == kind) {
                return;
            }
            got = e.toString();
        }
        wrong++;
        System.out.println(what + " threw " + got + ", due is " + kind.getName());
    }

    void end() {
        System.out.println(asked - wrong + " answers as due, " + wrong + " not");
        if (wrong != 0 || asked == 0) {
            System.exit(1);
        }
    }
}
