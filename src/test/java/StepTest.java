/** Promises 8 to 10: step, head, normal. */
public final class StepTest {
    private static final Check CHECK = new Check();
    private static final String OMEGA = "(.(' ') .(' '))";
    private static final String TWO = "..('' ('' '))";

    public static void main(String[] args) {
        step();
        stepOrder();
        stepWithoutClash();
        head();
        normal();
        CHECK.end();
    }

    private static void due(String what, BindingBench x, int a, String written) {
        CHECK.equal(what, Terms.text(x, a), written);
    }

    private static void stepIs(String before, String after) {
        BindingBench x = Terms.bench(before);
        CHECK.equal("step of " + before, x.step(1, 0), true);
        due("step of " + before, x, 1, after);
        due("a behind step of " + before, x, 0, before);
    }

    private static void step() {
        stepIs("(.' 3)", "3");
        stepIs("(.(' ') 3)", "(3 3)");
        stepIs("(.4 3)", "4");
        stepIs(OMEGA, OMEGA);
        BindingBench x = Terms.bench("(3 .(' 4))", "7", "(.' 3)");
        CHECK.equal("step without one", x.step(1, 0), false);
        due("step without one", x, 1, "(3 .(' 4))");
        CHECK.equal("step onto itself", x.step(2, 2), true);
        due("step onto itself", x, 2, "3");
        CHECK.equal("step of FREE", x.step(2, 2), false);
    }

    private static void stepOrder() {
        // The outermost first: what it drops is never reduced.
        stepIs("(.4 (.' 5))", "4");
        stepIs("(.(.' ') 5)", "(.' 5)");
        stepIs("(.(' ') (.' 5))", "((.' 5) (.' 5))");
        // The leftmost of several; just the one.
        stepIs("((1 (.' 2)) (.' 3))", "((1 2) (.' 3))");
        stepIs("((.' 2) (.' 3))", "(2 (.' 3))");
        stepIs("(1 ((.' 2) (.' 3)))", "(1 (2 (.' 3)))");
        stepIs("((.(.' ') 5) (.' 3))", "((.' 5) (.' 3))");
        stepIs("(((..'' 1) 2) 3)", "((.1 2) 3)");
        // Inside a FUNCTION, too.
        stepIs(".(.' ')", ".'");
        stepIs("(1 .(2 (.' ')))", "(1 .(2 '))");
    }

    private static void stepWithoutClash() {
        // A VARIABLE of b keeps its own FUNCTION below others.
        stepIs(".(..'' ')", "..''");
        stepIs(".(..('' ') ')", "..('' ')");
        stepIs("..(.(' .('' .''')) ('' .('' ''')))", "..(('' .('' ''')) .((''' .(''' '''')) .('''' .('''' '''''))))");
        // A VARIABLE from farther out stands one FUNCTION nearer.
        stepIs(".(.'' 5)", ".'");
        stepIs("..(.(''' .(''' '''')) 5)", "..('' .('' '''))");
        stepIs(".(.(.('' ''') 5) 6)", ".(.(6 '') 5)");
    }

    private static void headIs(String before, int steps, String after) {
        BindingBench x = Terms.bench(before);
        CHECK.equal("head of " + before, x.head(1, 0), steps);
        due("head of " + before, x, 1, after);
        due("a behind head of " + before, x, 0, before);
    }

    private static void head() {
        headIs("7", 0, "7");
        headIs(".(.' ')", 0, ".(.' ')");
        headIs("(3 (.' 4))", 0, "(3 (.' 4))");
        headIs("((3 (.' 4)) (.' 5))", 0, "((3 (.' 4)) (.' 5))");
        headIs("((3 (.' 4)) 5)", 0, "((3 (.' 4)) 5)");
        headIs("(((3 (.' 4)) .(.' ')) 5)", 0, "(((3 (.' 4)) .(.' ')) 5)");
        headIs("((.' 3) (.' 4))", 1, "(3 (.' 4))");
        headIs("(((.' 3) (.' 4)) 5)", 1, "((3 (.' 4)) 5)");
        headIs("((.(' (.' 4)) 3) 5)", 1, "((3 (.' 4)) 5)");
        headIs("(((..'' 1) 2) (.' 3))", 2, "(1 (.' 3))");
        headIs("(.' .(.' '))", 1, ".(.' ')");
        headIs("((.' .(.' ')) 5)", 3, "5");
        headIs("(5 " + OMEGA + ")", 0, "(5 " + OMEGA + ")");
        headIs("((..' " + OMEGA + ") 6)", 2, "6");
        headIs("(" + TWO + " " + TWO + ")", 1, ".(" + TWO + " (" + TWO + " '))");
        BindingBench x = Terms.bench("(.' (.' 5))");
        CHECK.equal("head onto itself", x.head(0, 0), 2);
        due("head onto itself", x, 0, "5");
    }

    private static void normalIs(String before, int steps, String after) {
        BindingBench x = Terms.bench(before);
        CHECK.equal("normal of " + before, x.normal(1, 0), steps);
        due("normal of " + before, x, 1, after);
        due("a behind normal of " + before, x, 0, before);
    }

    private static void normal() {
        normalIs("7", 0, "7");
        normalIs("(7 .(' 8))", 0, "(7 .(' 8))");
        normalIs(".(.' ')", 1, ".'");
        normalIs("((.' .') 5)", 2, "5");
        normalIs("(7 ((.' .') 5))", 2, "(7 5)");
        normalIs("((3 (.' 4)) (.' 5))", 2, "((3 4) 5)");
        normalIs("(" + TWO + " " + TWO + ")", 6, "..('' ('' ('' ('' '))))");
        normalIs("((..'' 5) " + OMEGA + ")", 2, "5");
        normalIs("(.(' ') (.' 5))", 3, "(5 5)");
        BindingBench x = Terms.bench("(.' (.' 5))");
        CHECK.equal("normal onto itself", x.normal(0, 0), 2);
        due("normal onto itself", x, 0, "5");
    }
}
