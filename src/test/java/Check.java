/** Counts answers that are not as due, prints them, and ends a test with exit code 1 if there was one. */
final class Check {
    private int wrong;

    void equal(String what, Object got, Object due) {
        if (!got.equals(due)) {
            report(what + " answered " + got + ", due is " + due);
        }
    }

    void fails(String what, Class<? extends RuntimeException> due, Runnable call) {
        String got = "nothing";
        try {
            call.run();
        } catch (RuntimeException e) {
            got = e.getClass().getName();
        }
        if (!got.equals(due.getName())) {
            report(what + " threw " + got + ", due is " + due.getName());
        }
    }

    void report(String what) {
        wrong++;
        System.out.println(what);
    }

    void end() {
        System.out.println(wrong == 0 ? "all answers are as due" : wrong + " answers are not as due");
        if (wrong != 0) {
            System.exit(1);
        }
    }
}
