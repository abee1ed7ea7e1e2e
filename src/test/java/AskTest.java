import java.util.NoSuchElementException;

/** Promises 11 to 15: same, about, has, write, out. */
public final class AskTest {
    private static final Check CHECK = new Check();
    private static final Class<NoSuchElementException> MISSING = NoSuchElementException.class;
    private static final Class<IllegalArgumentException> UNFIT = IllegalArgumentException.class;
    private static final Class<IndexOutOfBoundsException> OUTSIDE = IndexOutOfBoundsException.class;

    public static void main(String[] args) {
        same();
        about();
        aboutLimits();
        has();
        write();
        writeLimits();
        out();
        CHECK.end();
    }

    private static void sameIs(String first, String second, boolean due) {
        BindingBench x = Terms.bench(first, second);
        CHECK.equal("same of " + first + " and " + second, x.same(0, 1), due);
        CHECK.equal("same of " + second + " and " + first, x.same(1, 0), due);
    }

    private static void same() {
        sameIs("5", "5", true);
        sameIs("5", "6", false);
        sameIs("5", ".5", false);
        sameIs(".(' 5)", ".(' 5)", true);
        sameIs("..(' '')", "..('' ')", false);
        sameIs("((1 2) 3)", "(1 (2 3))", false);
        sameIs(".(' 1)", "(.' 1)", false);
        sameIs("(.' 3)", "3", false);
        // Bound by other names: (1 2) by 1 and by 2, and (2 1) by 2 and by 1.
        BindingBench x = Terms.bench("(1 2)", "(2 1)");
        x.bind(0, 0, 1);
        x.bind(0, 0, 2);
        x.bind(1, 1, 2);
        CHECK.equal("same of a FUNCTION and one of its names free", x.same(0, 1), false);
        x.bind(1, 1, 1);
        CHECK.equal("same but for names", x.same(0, 1), true);
        CHECK.equal("same of one with itself", x.same(0, 0), true);
        CHECK.equal("same of two new ones", x.same(5, 6), true);
        CHECK.fails("same(16, 0)", MISSING, () -> x.same(16, 0));
        CHECK.fails("same(0, 16)", MISSING, () -> x.same(0, 16));
        CHECK.fails("same(-1, 0)", MISSING, () -> x.same(-1, 0));
    }

    private static void aboutIs(String written, int... due) {
        BindingBench x = Terms.bench(written);
        for (int what = 0; what < due.length; what++) {
            CHECK.equal("about " + what + " of " + written, x.about(0, what), due[what]);
        }
    }

    private static void about() {
        aboutIs("7", 1, 1, 0, 1, 0);
        aboutIs(".'", 2, 2, 2, 0, 0);
        aboutIs("(7 7)", 3, 2, 1, 1, 0);
        aboutIs("(.' 7)", 4, 3, 1, 1, 1);
        aboutIs("(7 .')", 4, 3, 1, 1, 0);
        aboutIs("((1 2) (3 (4 1)))", 9, 4, 1, 4, 0);
        aboutIs(".((.' 5) (.(.' ') 6))", 13, 7, 2, 2, 3);
        aboutIs("(.(.' ') (.' 63))", 10, 5, 1, 1, 3);
        aboutIs("((0 63) (64 65))", 7, 3, 1, 4, 0);
        BindingBench x = new BindingBench();
        CHECK.fails("about(0, 5)", UNFIT, () -> x.about(0, 5));
        CHECK.fails("about(0, -1)", UNFIT, () -> x.about(0, -1));
        CHECK.fails("about(0, most)", UNFIT, () -> x.about(0, Integer.MAX_VALUE));
        CHECK.fails("about(16, 0)", MISSING, () -> x.about(16, 0));
        CHECK.fails("about(-1, 0)", MISSING, () -> x.about(-1, 0));
        CHECK.fails("about(16, 5)", MISSING, () -> x.about(16, 5));
    }

    private static void aboutLimits() {
        BindingBench x = new BindingBench();
        for (int n = 0; n < 100; n++) {
            x.free(1, n);
            x.apply(0, 0, 1);
        }
        CHECK.equal("different FREE ones of all", x.about(0, 3), 100);
        BindingBench y = new BindingBench();
        Terms.sized(y, 0, 1, 2000);
        CHECK.equal("the greatest SIZE", y.about(0, 0), 2000);
        BindingBench z = new BindingBench();
        Terms.chain(z, 0, 1, 150);
        CHECK.equal("the greatest DEPTH", z.about(0, 1), 150);
    }

    private static void has() {
        BindingBench x = Terms.bench("((5 .(' 5)) (6 .5))", ".'");
        CHECK.equal("has(0, 5)", x.has(0, 5), 3);
        CHECK.equal("has(0, 6)", x.has(0, 6), 1);
        CHECK.equal("has(0, 0)", x.has(0, 0), 0);
        CHECK.equal("has(1, 0)", x.has(1, 0), 0);
        CHECK.equal("has(1, 99)", x.has(1, 99), 0);
        x.free(2, 99);
        CHECK.equal("has(2, 99)", x.has(2, 99), 1);
        Terms.greatest(x, 3, 1);
        CHECK.equal("has at 1,000 places", x.has(3, 1), 1000);
        CHECK.fails("has(16, 0)", MISSING, () -> x.has(16, 0));
        CHECK.fails("has(-1, 0)", MISSING, () -> x.has(-1, 0));
        CHECK.fails("has(0, 100)", MISSING, () -> x.has(0, 100));
        CHECK.fails("has(0, -1)", MISSING, () -> x.has(0, -1));
        CHECK.fails("has(0, -2)", MISSING, () -> x.has(0, -2));
    }

    private static void writeIs(String written) {
        BindingBench x = Terms.bench(written);
        CHECK.equal("write of " + written, x.write(0), written.length());
        CHECK.equal("write of " + written, Terms.text(x, 0), written);
    }

    private static void write() {
        writeIs("0");
        writeIs("9");
        writeIs("10");
        writeIs("69");
        writeIs(".'");
        writeIs("..''");
        writeIs("(1 2)");
        writeIs("((1 2) 3)");
        writeIs("(1 (2 3))");
        writeIs("(((1 2) (3 4)) ((5 6) (7 8)))");
        writeIs(".(.(' '') (' .(.'' '')))");
        writeIs("(.(1 .(2 '')) .')");
        BindingBench x = Terms.bench("(1 2)");
        x.free(1, 99);
        CHECK.equal("write of 99", Terms.text(x, 1), "99");
        CHECK.fails("write(16)", MISSING, () -> x.write(16));
        CHECK.fails("write(-1)", MISSING, () -> x.write(-1));
        CHECK.equal("OUT behind write that failed", x.out(1), (int) '9');
    }

    private static void writeLimits() {
        BindingBench x = new BindingBench();
        Terms.tree(x, 0, 1, 10);
        x.bind(1, 0, 1);
        for (int i = 0; i < 139; i++) {
            x.bind(0, 0, 2);
            x.bind(1, 1, 2);
        }
        x.bind(0, 0, 1);
        CHECK.equal("DEPTH of a long text's term", x.about(0, 1), 150);
        CHECK.equal("write with one mark each", x.write(1), 140 + 511 * 3 + 512);
        int length = 140 + 511 * 3 + 512 * 140;
        CHECK.equal("write with 140 marks each", x.write(0), length);
        CHECK.equal("its first byte", x.out(0), (int) '.');
        CHECK.equal("its last mark", x.out(length - 10), (int) '\'');
        CHECK.equal("its last byte", x.out(length - 1), (int) ')');
        CHECK.fails("what is behind it", OUTSIDE, () -> x.out(length));
        CHECK.equal("a short text behind it", Terms.text(x, 5), "0");
        CHECK.fails("what is behind a short text", OUTSIDE, () -> x.out(1));
    }

    private static void out() {
        BindingBench x = Terms.bench("(.' 42)", "7");
        CHECK.fails("out before write", OUTSIDE, () -> x.out(0));
        x.write(0);
        int[] due = {'(', '.', '\'', ' ', '4', '2', ')'};
        for (int i = 0; i < due.length; i++) {
            CHECK.equal("out(" + i + ")", x.out(i), due[i]);
        }
        CHECK.fails("out(7)", OUTSIDE, () -> x.out(7));
        CHECK.fails("out(-1)", OUTSIDE, () -> x.out(-1));
        CHECK.fails("out(most)", OUTSIDE, () -> x.out(Integer.MAX_VALUE));
        CHECK.fails("out(least)", OUTSIDE, () -> x.out(Integer.MIN_VALUE));
        x.normal(0, 0);
        x.free(0, 3);
        CHECK.equal("OUT is what was written then", x.out(4), (int) '4');
        x.write(1);
        CHECK.equal("OUT is the last one written", x.out(0), (int) '7');
        CHECK.fails("OUT has nothing left of the one before", OUTSIDE, () -> x.out(1));
    }
}
