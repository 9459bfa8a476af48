/** Counts the checks that fail, and ends a test. */
final class Checks {
    interface Call {
        Object answer();
    }

    private int made;
    private int failed;

    /** The call answers what is due; numbers are compared with their type. */
    void answers(String name, Object due, Call call) {
        Object got;
        try {
            got = call.answer();
        } catch (RuntimeException e) {
            got = e.getClass().getSimpleName();
        }
        isTrue(name + ": answered " + got + ", due is " + due, due.equals(got));
    }

    /** The call throws this very exception, not one of a subclass. */
    void refuses(String name, Class<? extends RuntimeException> due, Call call) {
        Object got;
        try {
            got = call.answer();
        } catch (RuntimeException e) {
            got = e.getClass();
        }
        isTrue(name + ": answered " + got + ", due is " + due, due.equals(got));
    }

    void isTrue(String name, boolean holds) {
        made++;
        if (!holds) {
            failed++;
            System.out.println(name);
        }
    }

    void end() {
        System.out.println(made + " checks, " + failed + " failed");
        if (failed > 0) {
            System.exit(1);
        }
    }
}
