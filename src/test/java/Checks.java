/** Counts what holds and what does not; a test ends with its finish. */
final class Checks {
    interface Call {
        void run();
    }

    static final int[] NO_IDS = {-1, -2, 30, 31, 1000, Integer.MIN_VALUE, Integer.MAX_VALUE};

    private final String test;
    private int held;
    private int broken;

    Checks(String test) {
        this.test = test;
    }

    void equal(String what, long got, long want) {
        note(got == want, what + " answered " + got + ", due is " + want);
    }

    void equal(String what, boolean got, boolean want) {
        note(got == want, what + " answered " + got + ", due is " + want);
    }

    void equal(String what, String got, String want) {
        note(got.equals(want), what + " answered\n  " + got + "\n due is\n  " + want);
    }

    void illegalArgument(String what, Call call) {
        thrown(what, call, IllegalArgumentException.class);
    }

    void illegalState(String what, Call call) {
        thrown(what, call, IllegalStateException.class);
    }

    void outOfBounds(String what, Call call) {
        thrown(what, call, IndexOutOfBoundsException.class);
    }

    /** The very class counts: the machine's own exceptions are classes below the ones that are due. */
    private void thrown(String what, Call call, Class<?> want) {
        String got = "nothing";
        try {
            call.run();
        } catch (RuntimeException e) {
            got = e.getClass().getName();
        }
        note(got.equals(want.getName()), what + " threw " + got + ", due is " + want.getName());
    }

    void note(boolean holds, String fault) {
        if (holds) {
            held++;
        } else {
            broken++;
            System.out.println(test + ": " + fault);
        }
    }

    boolean anyBroken() {
        return broken > 0;
    }

    void finish() {
        System.out.println(test + ": " + held + " checks held, " + broken + " did not");
        if (broken > 0) {
            System.exit(1);
        }
    }
}
