/** Promises 9 and 10: the 300th STEP, and a 301st one. */
public final class LastStepTest {
    private static final Check CHECK = new Check();
    private static final Class<IllegalStateException> BEYOND = IllegalStateException.class;
    private static final Class<ArithmeticException> TOO_MANY = ArithmeticException.class;
    private static final String OMEGA = "(.(' ') .(' '))";

    /** To another REGISTER, and onto the one that is reduced. */
    private static final int[] TARGETS = {15, 0};

    /** head or normal of REGISTER 0: how many STEPS. */
    private interface Reducer {
        int reduce(BindingBench x, int to);
    }

    private static final Reducer HEAD = (x, to) -> x.head(to, 0);
    private static final Reducer NORMAL = (x, to) -> x.normal(to, 0);

    public static void main(String[] args) {
        for (Reducer reducer : new Reducer[] {HEAD, NORMAL}) {
            String name = reducer == HEAD ? "head" : "normal";
            count(name, reducer);
            endless(name, reducer);
            lastBySize(name, reducer);
            lastByDepth(name, reducer);
        }
        normalInside();
        normalAtManyPlaces();
        normalBehindManyPlaces();
        CHECK.end();
    }

    private static void answers(String what, Calls before, Reducer reducer, int steps, String written) {
        for (int to : TARGETS) {
            String name = what + " to REGISTER " + to;
            CHECK.equal(name, Shown.answer(() -> reducer.reduce(Shown.behind(before), to)), Integer.toString(steps));
            Calls behind = before.and(x -> Shown.answer(() -> reducer.reduce(x, to)));
            CHECK.equal(name, Shown.written(behind, to), written);
        }
    }

    private static void refused(String what, Class<? extends RuntimeException> due, Calls before, Reducer reducer) {
        for (int to : TARGETS) {
            CHECK.refused(what + " to REGISTER " + to, due, before, x -> reducer.reduce(x, to));
        }
    }

    private static void count(String name, Reducer reducer) {
        for (int steps = 298; steps <= 303; steps++) {
            int all = steps;
            Calls before = x -> Terms.longHead(x, 0, all);
            if (steps <= 300) {
                answers(name + " of " + steps + " STEPS", before, reducer, steps, ".'");
            } else {
                refused(name + " of " + steps + " STEPS", TOO_MANY, before, reducer);
            }
        }
    }

    private static void endless(String name, Reducer reducer) {
        refused(name + " without an end", TOO_MANY, x -> Terms.set(x, 0, OMEGA), reducer);
        refused(name + " without an end of a first part", TOO_MANY, x -> Terms.set(x, 0, "(" + OMEGA + " 5)"), reducer);
        // It grows by one at each STEP, and is beyond DEPTH before the 301st.
        refused(name + " that grows", BEYOND, x -> Terms.set(x, 0, "(.((' ') 5) .((' ') 5))"), reducer);
    }

    /** ((X f) b), which becomes (f b) in the STEPS of X and one more: the next is that of f at b. */
    private static Calls last(int step, String function, Calls second) {
        return second.and(x -> {
            Terms.longHead(x, 0, step - 2);
            Terms.set(x, 2, function);
            x.apply(0, 0, 2);
            x.apply(0, 0, 1);
        });
    }

    private static void lastBySize(String name, Reducer reducer) {
        Calls second = x -> Terms.sized(x, 1, 1, 999);
        String b = Shown.written(second, 1);
        String most = "..('' '')";
        String beyond = ".(' (' 6))";
        answers(name + ", the 300th STEP to SIZE 2,000", last(300, most, second), reducer, 300, ".(" + b + " " + b + ")");
        refused(name + ", the 300th STEP to SIZE 2,001", BEYOND, last(300, beyond, second), reducer);
        refused(name + ", the 301st STEP to SIZE 2,000", TOO_MANY, last(301, most, second), reducer);
        refused(name + ", the 301st STEP to SIZE 2,001", BEYOND, last(301, beyond, second), reducer);
        refused(name + ", the 302nd STEP to SIZE 2,001", TOO_MANY, last(302, beyond, second), reducer);
    }

    private static void lastByDepth(String name, Reducer reducer) {
        Calls second = x -> Terms.chain(x, 1, 1, 148);
        String b = Shown.written(second, 1);
        String most = ".(6 (6 '))";
        String beyond = ".(6 (6 .''))";
        answers(name + ", the 300th STEP to DEPTH 150", last(300, most, second), reducer, 300, "(6 (6 " + b + "))");
        refused(name + ", the 300th STEP to DEPTH 151", BEYOND, last(300, beyond, second), reducer);
        refused(name + ", the 301st STEP to DEPTH 150", TOO_MANY, last(301, most, second), reducer);
        refused(name + ", the 301st STEP to DEPTH 151", BEYOND, last(301, beyond, second), reducer);
        refused(name + ", the 302nd STEP to DEPTH 151", TOO_MANY, last(302, beyond, second), reducer);
    }

    /** ((7 a) .b): the STEPS of a and of b are none of the HEAD. */
    private static Calls inside(int a, int b) {
        return x -> {
            Terms.set(x, 0, "7");
            Terms.unwrapped(x, 1, a);
            x.apply(0, 0, 1);
            Terms.longHead(x, 1, b);
            x.bind(1, 1, 7);
            x.apply(0, 0, 1);
        };
    }

    private static void normalInside() {
        answers("normal of 60 and 240 STEPS", inside(60, 240), NORMAL, 300, "((7 .') ..')");
        refused("normal of 60 and 241 STEPS", TOO_MANY, inside(60, 241), NORMAL);
        refused("normal of 61 and 240 STEPS", TOO_MANY, inside(61, 240), NORMAL);
        Calls before = inside(61, 240);
        answers("head where no STEP is of the HEAD", before, HEAD, 0, Shown.written(before, 0));
    }

    private static Calls places(int count) {
        return x -> Terms.copies(x, 0, "(.' 5)", count);
    }

    private static void normalAtManyPlaces() {
        Calls most = places(300);
        answers("normal at 300 places", most, NORMAL, 300, Shown.written(most, 0).replace("(.' 5)", "5"));
        refused("normal at 301 places", TOO_MANY, places(301), NORMAL);
    }

    /** The 301st STEP, behind the 300 of a first part, puts a term of DEPTH 148 at DEPTH 2 or deeper. */
    private static void normalBehindManyPlaces() {
        Calls before = places(300).and(x -> Terms.chain(x, 1, 1, 148));
        refused("normal, a 301st STEP in a second part to DEPTH 150", TOO_MANY, before.and(second(".(2 ')")), NORMAL);
        refused("normal, a 301st STEP in a second part to DEPTH 151", BEYOND, before.and(second(".(2 (2 '))")), NORMAL);
        refused("normal of a second part without an end", TOO_MANY, x -> Terms.set(x, 0, "(5 " + OMEGA + ")"), NORMAL);
    }

    /** REGISTER 0 at (the function at REGISTER 1). */
    private static Calls second(String function) {
        return x -> {
            Terms.set(x, 2, function);
            x.apply(1, 2, 1);
            x.apply(0, 0, 1);
        };
    }
}
