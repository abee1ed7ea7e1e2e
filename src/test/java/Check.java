import java.util.List;

/** Counts answers that are not as due, prints them, and ends a test with exit code 1 if there was one. */
final class Check {
    /** Of an answer that is printed. */
    private static final int LONGEST = 200;

    private int wrong;

    void equal(String what, Object got, Object due) {
        if (!got.equals(due)) {
            report(what + " answered " + shortened(got) + ", due is " + shortened(due));
        }
    }

    private static String shortened(Object answer) {
        String text = answer.toString();
        return text.length() <= LONGEST ? text : text.substring(0, LONGEST) + " ..";
    }

    void fails(String what, Class<? extends RuntimeException> due, Runnable call) {
        String got = Shown.answer(() -> {
            call.run();
            return 0;
        });
        if (!got.equals(due.getName())) {
            report(what + " threw " + (got.equals("0") ? "nothing" : got) + ", due is " + due.getName());
        }
    }

    /** That the call, behind those before it, throws what is due, and that nothing shows that it was made. */
    void refused(String what, Class<? extends RuntimeException> due, Calls before, Calls call) {
        BindingBench x = Shown.behind(before);
        fails(what, due, () -> call.on(x));
        Calls behind = before.and(y -> {
            try {
                call.on(y);
            } catch (RuntimeException e) {
                // That it throws what is due has been looked at above.
            }
        });
        List<String> got = Shown.all(behind);
        List<String> shown = Shown.all(before);
        for (int i = 0; i < shown.size(); i++) {
            equal("behind " + what + " a later call", got.get(i), shown.get(i));
        }
    }

    void report(String what) {
        wrong++;
        System.out.println(what);
    }

    void end() {
        System.out.println(wrong == 0 ? "all answers are as due" : wrong + " answers are not as due");
        if (wrong != 0) {
            System.exit(1);
        }
    }
}
