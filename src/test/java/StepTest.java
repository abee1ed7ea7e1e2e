import java.util.NoSuchElementException;

/** Promises 8 to 10: step, head, normal. */
public final class StepTest {
    private static final Check CHECK = new Check();
    private static final Class<NoSuchElementException> MISSING = NoSuchElementException.class;
    private static final Class<IllegalStateException> BEYOND = IllegalStateException.class;
    private static final Class<ArithmeticException> ENDLESS = ArithmeticException.class;
    private static final String OMEGA = "(.(' ') .(' '))";
    private static final String TWO = "..('' ('' '))";

    public static void main(String[] args) {
        step();
        stepOrder();
        stepWithoutClash();
        stepBeyondSize();
        stepBeyondDepth();
        head();
        headBeyond();
        headLastSteps();
        normal();
        normalBeyond();
        normalLastSteps();
        CHECK.end();
    }

    private static void due(String what, BindingBench x, int a, String written) {
        CHECK.equal(what, Terms.text(x, a), written);
    }

    private static void stepIs(String before, String after) {
        BindingBench x = Terms.bench(before);
        CHECK.equal("step of " + before, x.step(1, 0), true);
        due("step of " + before, x, 1, after);
        due("a behind step of " + before, x, 0, before);
    }

    private static void step() {
        stepIs("(.' 3)", "3");
        stepIs("(.(' ') 3)", "(3 3)");
        stepIs("(.4 3)", "4");
        stepIs(OMEGA, OMEGA);
        BindingBench x = Terms.bench("(3 .(' 4))", "7", "(.' 3)");
        CHECK.equal("step without one", x.step(1, 0), false);
        due("step without one", x, 1, "(3 .(' 4))");
        CHECK.equal("step onto itself", x.step(2, 2), true);
        due("step onto itself", x, 2, "3");
        CHECK.equal("step of FREE", x.step(2, 2), false);
        CHECK.fails("step(16, 0)", MISSING, () -> x.step(16, 0));
        CHECK.fails("step(0, 16)", MISSING, () -> x.step(0, 16));
        CHECK.fails("step(-1, 0)", MISSING, () -> x.step(-1, 0));
        due("REGISTER 0 behind step that failed", x, 0, "(3 .(' 4))");
    }

    private static void stepOrder() {
        // The outermost first: what it drops is never reduced.
        stepIs("(.4 (.' 5))", "4");
        stepIs("(.(.' ') 5)", "(.' 5)");
        stepIs("(.(' ') (.' 5))", "((.' 5) (.' 5))");
        // The leftmost of several; just the one.
        stepIs("((1 (.' 2)) (.' 3))", "((1 2) (.' 3))");
        stepIs("((.' 2) (.' 3))", "(2 (.' 3))");
        stepIs("(1 ((.' 2) (.' 3)))", "(1 (2 (.' 3)))");
        stepIs("((.(.' ') 5) (.' 3))", "((.' 5) (.' 3))");
        stepIs("(((..'' 1) 2) 3)", "((.1 2) 3)");
        // Inside a FUNCTION, too.
        stepIs(".(.' ')", ".'");
        stepIs("(1 .(2 (.' ')))", "(1 .(2 '))");
    }

    private static void stepWithoutClash() {
        // A VARIABLE of b keeps its own FUNCTION below others.
        stepIs(".(..'' ')", "..''");
        stepIs(".(..('' ') ')", "..('' ')");
        stepIs("..(.(' .('' .''')) ('' .('' ''')))", "..(('' .('' ''')) .((''' .(''' '''')) .('''' .('''' '''''))))");
        // A VARIABLE from farther out stands one FUNCTION nearer.
        stepIs(".(.'' 5)", ".'");
        stepIs("..(.(''' .(''' '''')) 5)", "..('' .('' '''))");
        stepIs(".(.(.('' ''') 5) 6)", ".(.(6 '') 5)");
    }

    private static void stepBeyondSize() {
        // The SIZE of the whole counts, not that of the part that is reduced.
        sizeOfWhole(796, true);
        sizeOfWhole(795, false);
        BindingBench x = new BindingBench();
        Terms.sized(x, 0, 1, 1900);
        Terms.set(x, 1, ".((' ') (' '))");
        x.apply(2, 1, 0);
        CHECK.fails("step to SIZE 7,603", BEYOND, () -> x.step(3, 2));
        due("REGISTER 3 behind step that failed", x, 3, "0");
        CHECK.fails("step to SIZE 7,603 onto itself", BEYOND, () -> x.step(2, 2));
        CHECK.equal("SIZE behind step that failed", x.about(2, 0), 1909);
        // What drops a great term makes a small one.
        Terms.set(x, 1, ".6");
        x.apply(2, 1, 0);
        CHECK.equal("step that drops", x.step(2, 2), true);
        due("step that drops", x, 2, "6");
    }

    /** A part that becomes SIZE 2 * 601 + 1, beside one of some SIZE more. */
    private static void sizeOfWhole(int more, boolean beyond) {
        BindingBench x = Terms.bench("6", ".(' ')");
        Terms.sized(x, 2, 1, 601);
        x.apply(2, 1, 2);
        Terms.sized(x, 3, 1, more);
        x.apply(4, 2, 3);
        x.bind(4, 4, 9);
        if (beyond) {
            CHECK.fails("step of a part to SIZE 2,001", BEYOND, () -> x.step(0, 4));
            due("REGISTER behind step of a part that failed", x, 0, "6");
        } else {
            CHECK.equal("step of a part to SIZE 2,000", x.step(0, 4), true);
            CHECK.equal("SIZE behind step of a part", x.about(0, 0), 2000);
        }
    }

    private static void stepBeyondDepth() {
        BindingBench y = new BindingBench();
        Terms.chain(y, 0, 1, 148);
        Terms.set(y, 1, ".(2 ')");
        y.apply(2, 1, 0);
        y.apply(3, 4, 2);
        CHECK.equal("DEPTH before step", y.about(3, 1), 150);
        CHECK.equal("step to DEPTH 150", y.step(5, 3), true);
        CHECK.equal("DEPTH behind step", y.about(5, 1), 150);
        Terms.set(y, 1, ".(2 (2 '))");
        y.apply(2, 1, 0);
        y.apply(3, 4, 2);
        CHECK.fails("step of a part to DEPTH 151", BEYOND, () -> y.step(5, 3));
        CHECK.equal("DEPTH behind step that failed", y.about(5, 1), 150);
        CHECK.equal("step to DEPTH 150 alone", y.step(5, 2), true);
        CHECK.equal("DEPTH 150 alone", y.about(5, 1), 150);
    }

    private static void headIs(String before, int steps, String after) {
        BindingBench x = Terms.bench(before);
        CHECK.equal("head of " + before, x.head(1, 0), steps);
        due("head of " + before, x, 1, after);
        due("a behind head of " + before, x, 0, before);
    }

    private static void head() {
        headIs("7", 0, "7");
        headIs(".(.' ')", 0, ".(.' ')");
        headIs("(3 (.' 4))", 0, "(3 (.' 4))");
        headIs("((3 (.' 4)) (.' 5))", 0, "((3 (.' 4)) (.' 5))");
        headIs("((.' 3) (.' 4))", 1, "(3 (.' 4))");
        headIs("(((..'' 1) 2) (.' 3))", 2, "(1 (.' 3))");
        headIs("(.' .(.' '))", 1, ".(.' ')");
        headIs("((.' .(.' ')) 5)", 3, "5");
        headIs("(5 " + OMEGA + ")", 0, "(5 " + OMEGA + ")");
        headIs("((..' " + OMEGA + ") 6)", 2, "6");
        headIs("(" + TWO + " " + TWO + ")", 1, ".(" + TWO + " (" + TWO + " '))");
        BindingBench x = Terms.bench("(.' (.' 5))", OMEGA, "8");
        CHECK.equal("head onto itself", x.head(0, 0), 2);
        due("head onto itself", x, 0, "5");
        CHECK.fails("head without an end", ENDLESS, () -> x.head(2, 1));
        due("REGISTER 2 behind head that failed", x, 2, "8");
        CHECK.fails("head(16, 0)", MISSING, () -> x.head(16, 0));
        CHECK.fails("head(0, 16)", MISSING, () -> x.head(0, 16));
        CHECK.fails("head(-1, 1)", MISSING, () -> x.head(-1, 1));
    }

    private static void headBeyond() {
        String grows = ".((' ') ')";
        BindingBench x = Terms.bench("(" + grows + " " + grows + ")", "8");
        CHECK.fails("head beyond DEPTH", BEYOND, () -> x.head(1, 0));
        due("REGISTER 1 behind head that failed", x, 1, "8");
        // Beside what is reduced stands a great second part, which counts.
        BindingBench y = new BindingBench();
        Terms.sized(y, 0, 1, 1987);
        Terms.set(y, 1, "(.(' ') ((1 1) 1))");
        y.apply(2, 1, 0);
        CHECK.equal("SIZE before head", y.about(2, 0), 1998);
        CHECK.equal("head to SIZE 1,999", y.head(3, 2), 1);
        CHECK.equal("SIZE behind head", y.about(3, 0), 1999);
        Terms.sized(y, 0, 1, 1989);
        y.apply(2, 1, 0);
        CHECK.equal("SIZE before head", y.about(2, 0), 2000);
        CHECK.fails("head to SIZE 2,001", BEYOND, () -> y.head(3, 2));
        CHECK.equal("SIZE behind head that failed", y.about(3, 0), 1999);
    }

    /** REGISTER to has a term whose HEAD is .', behind 299 STEPS. */
    private static void longHead(BindingBench x, int to) {
        // A numeral n at .' and at .' becomes .' in n + 2 STEPS, and (.' b) becomes b in one.
        Terms.set(x, 9, ".'");
        Terms.numeral(x, to, 97);
        x.apply(to, to, 9);
        x.apply(to, to, 9);
        x.apply(9, to, to);
        x.apply(to, 9, to);
    }

    private static void headLastSteps() {
        BindingBench x = new BindingBench();
        longHead(x, 0);
        CHECK.equal("head of 299 STEPS", x.head(1, 0), 299);
        due("head of 299 STEPS", x, 1, ".'");
        x.free(2, 5);
        x.apply(0, 0, 2);
        CHECK.equal("head of 300 STEPS", x.head(1, 0), 300);
        due("head of 300 STEPS", x, 1, "5");
        x.apply(0, 9, 0);
        Terms.set(x, 9, ".'");
        x.apply(0, 9, 0);
        CHECK.fails("head of more STEPS", ENDLESS, () -> x.head(1, 0));
        due("REGISTER 1 behind head that failed", x, 1, "5");
        lastHeadStep(".(' 5)", ENDLESS);
        lastHeadStep(".(' ')", BEYOND);
    }

    /** The 301st STEP puts a term of SIZE 1,100 for the VARIABLE of the function. */
    private static void lastHeadStep(String function, Class<? extends RuntimeException> due) {
        BindingBench x = new BindingBench();
        longHead(x, 0);
        Terms.set(x, 1, function);
        x.apply(0, 0, 1);
        Terms.sized(x, 1, 1, 1100);
        x.apply(0, 0, 1);
        x.free(2, 5);
        CHECK.fails("head with a 301st STEP by " + function, due, () -> x.head(2, 0));
        due("REGISTER 2 behind head that failed", x, 2, "5");
    }

    private static void normalIs(String before, int steps, String after) {
        BindingBench x = Terms.bench(before);
        CHECK.equal("normal of " + before, x.normal(1, 0), steps);
        due("normal of " + before, x, 1, after);
        due("a behind normal of " + before, x, 0, before);
    }

    private static void normal() {
        normalIs("7", 0, "7");
        normalIs("(7 .(' 8))", 0, "(7 .(' 8))");
        normalIs(".(.' ')", 1, ".'");
        normalIs("((.' .') 5)", 2, "5");
        normalIs("(7 ((.' .') 5))", 2, "(7 5)");
        normalIs("((3 (.' 4)) (.' 5))", 2, "((3 4) 5)");
        normalIs("(" + TWO + " " + TWO + ")", 6, "..('' ('' ('' ('' '))))");
        normalIs("((..'' 5) " + OMEGA + ")", 2, "5");
        normalIs("(.(' ') (.' 5))", 3, "(5 5)");
        BindingBench x = Terms.bench("(.' (.' 5))", OMEGA, "8", "(5 " + OMEGA + ")");
        CHECK.equal("normal onto itself", x.normal(0, 0), 2);
        due("normal onto itself", x, 0, "5");
        CHECK.fails("normal without an end", ENDLESS, () -> x.normal(2, 1));
        CHECK.fails("normal of a second part without an end", ENDLESS, () -> x.normal(2, 3));
        due("REGISTER 2 behind normal that failed", x, 2, "8");
        CHECK.fails("normal(16, 0)", MISSING, () -> x.normal(16, 0));
        CHECK.fails("normal(0, 16)", MISSING, () -> x.normal(0, 16));
        CHECK.fails("normal(-1, 1)", MISSING, () -> x.normal(-1, 1));
    }

    private static void normalBeyond() {
        BindingBench x = new BindingBench();
        Terms.sized(x, 0, 1, 700);
        Terms.set(x, 1, ".((' ') ')");
        x.apply(0, 1, 0);
        // One FUNCTION around it that drops it: then nothing is ever beyond.
        Terms.set(x, 2, ".5");
        x.apply(3, 2, 0);
        CHECK.equal("normal of what is dropped", x.normal(4, 3), 1);
        due("normal of what is dropped", x, 4, "5");
        CHECK.fails("normal beyond SIZE", BEYOND, () -> x.normal(4, 0));
        due("REGISTER 4 behind normal that failed", x, 4, "5");
        // Beyond in a STEP, though a later one would drop it.
        Terms.set(x, 2, "(.(.5 ((' ') ')) 1)");
        Terms.sized(x, 0, 1, 700);
        x.put(2, 2, 1, 0);
        CHECK.fails("normal beyond SIZE on the way", BEYOND, () -> x.normal(4, 2));
    }

    private static void normalLastSteps() {
        BindingBench x = new BindingBench();
        Terms.manyRedexes(x, 0);
        CHECK.equal("places of STEPS", x.about(0, 4), 300);
        CHECK.equal("normal of 300 STEPS", x.normal(1, 0), 300);
        CHECK.equal("SIZE behind normal of 300 STEPS", x.about(1, 0), 599);
        CHECK.equal("places behind normal of 300 STEPS", x.about(1, 4), 0);
        Terms.set(x, 2, "(.' 5)");
        x.apply(3, 0, 2);
        x.free(4, 8);
        CHECK.fails("normal of 301 STEPS", ENDLESS, () -> x.normal(4, 3));
        due("REGISTER 4 behind normal that failed", x, 4, "8");
        lastNormalStep(".(2 ')", ENDLESS);
        lastNormalStep(".(2 (2 '))", BEYOND);
    }

    /** The 301st STEP puts a term of DEPTH 148, at DEPTH 2, for the VARIABLE of the function. */
    private static void lastNormalStep(String function, Class<? extends RuntimeException> due) {
        BindingBench x = new BindingBench();
        Terms.manyRedexes(x, 0);
        Terms.chain(x, 1, 1, 148);
        Terms.set(x, 2, function);
        x.apply(1, 2, 1);
        x.apply(0, 0, 1);
        x.free(2, 5);
        CHECK.fails("normal with a 301st STEP by " + function, due, () -> x.normal(2, 0));
        due("REGISTER 2 behind normal that failed", x, 2, "5");
    }
}
