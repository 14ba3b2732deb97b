/** Counts the answers that are not due, and ends a test with exit code 1 if there was one. */
final class Check {
    interface Call {
        int answer();
    }

    static final Class<? extends RuntimeException> INDEX = IndexOutOfBoundsException.class;
    static final Class<? extends RuntimeException> ARGUMENT = IllegalArgumentException.class;
    static final Class<? extends RuntimeException> STATE = IllegalStateException.class;

    private static int checks = 0;
    private static int wrong = 0;

    private Check() {
    }

    static void is(String what, long got, long due) {
        checks++;
        if (got != due) {
            wrong++;
            System.out.println(what + ": got " + got + ", due is " + due);
        }
    }

    static void is(String what, boolean got, boolean due) {
        is(what, got ? 1 : 0, due ? 1 : 0);
    }

    /** The exception must be of this very class, so that the machine's own subclasses don't count. */
    static void isThrown(String what, Class<? extends RuntimeException> due, Call call) {
        checks++;
        String got;
        try {
            got = "answer " + call.answer();
        } catch (RuntimeException e) {
            got = e.getClass() == due ? null : e.getClass().getName();
        }
        if (got != null) {
            wrong++;
            System.out.println(what + ": got " + got + ", due is " + due.getName());
        }
    }

    /** The call must answer, whatever it answers. */
    static void isTaken(String what, Call call) {
        checks++;
        try {
            call.answer();
        } catch (RuntimeException e) {
            wrong++;
            System.out.println(what + ": got " + e.getClass().getName() + ", due is an answer");
        }
    }

    /** As isThrown, and the call must have changed nothing. */
    static void isRefused(String what, Class<? extends RuntimeException> due, Story manager, Call call) {
        String before = Picture.of(manager);
        isThrown(what, due, call);
        isSame(what + " changes nothing", Picture.of(manager), before);
    }

    static void isSame(String what, String got, String due) {
        checks++;
        if (!got.equals(due)) {
            wrong++;
            System.out.println(what + ": got " + got + ", due is " + due);
        }
    }

    static void end() {
        System.out.println(checks + " checks, " + wrong + " wrong");
        if (wrong != 0 || checks == 0) {
            System.exit(1);
        }
    }
}
