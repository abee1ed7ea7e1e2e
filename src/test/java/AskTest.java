/** Promises 11 to 15: same, about, has, write, out. */
public final class AskTest {
    private static final Check CHECK = new Check();

    public static void main(String[] args) {
        same();
        about();
        has();
        write();
        out();
        CHECK.end();
    }

    private static void sameIs(String first, String second, boolean due) {
        BindingBench x = Terms.bench(first, second);
        CHECK.equal("same of " + first + " and " + second, x.same(0, 1), due);
        CHECK.equal("same of " + second + " and " + first, x.same(1, 0), due);
    }

    private static void same() {
        sameIs("5", "5", true);
        sameIs("5", "6", false);
        sameIs("5", ".5", false);
        sameIs(".(' 5)", ".(' 5)", true);
        sameIs("..(' '')", "..('' ')", false);
        sameIs("((1 2) 3)", "(1 (2 3))", false);
        sameIs(".(' 1)", "(.' 1)", false);
        sameIs("(.' 3)", "3", false);
        // Bound by other names: (1 2) by 1 and by 2, and (2 1) by 2 and by 1.
        BindingBench x = Terms.bench("(1 2)", "(2 1)");
        x.bind(0, 0, 1);
        x.bind(0, 0, 2);
        x.bind(1, 1, 2);
        CHECK.equal("same of a FUNCTION and one of its names free", x.same(0, 1), false);
        x.bind(1, 1, 1);
        CHECK.equal("same but for names", x.same(0, 1), true);
        CHECK.equal("same of one with itself", x.same(0, 0), true);
        CHECK.equal("same of two new ones", x.same(5, 6), true);
    }

    private static void aboutIs(String written, int... due) {
        BindingBench x = Terms.bench(written);
        for (int what = 0; what < due.length; what++) {
            CHECK.equal("about " + what + " of " + written, x.about(0, what), due[what]);
        }
    }

    private static void about() {
        aboutIs("7", 1, 1, 0, 1, 0);
        aboutIs(".'", 2, 2, 2, 0, 0);
        aboutIs("(7 7)", 3, 2, 1, 1, 0);
        aboutIs("(.' 7)", 4, 3, 1, 1, 1);
        aboutIs("(7 .')", 4, 3, 1, 1, 0);
        aboutIs("((1 2) (3 (4 1)))", 9, 4, 1, 4, 0);
        aboutIs(".((.' 5) (.(.' ') 6))", 13, 7, 2, 2, 3);
        aboutIs("(.(.' ') (.' 63))", 10, 5, 1, 1, 3);
        aboutIs("((0 63) (64 65))", 7, 3, 1, 4, 0);
    }

    private static void has() {
        BindingBench x = Terms.bench("((5 .(' 5)) (6 .5))", ".'");
        CHECK.equal("has(0, 5)", x.has(0, 5), 3);
        CHECK.equal("has(0, 6)", x.has(0, 6), 1);
        CHECK.equal("has(0, 0)", x.has(0, 0), 0);
        CHECK.equal("has(1, 0)", x.has(1, 0), 0);
        CHECK.equal("has(1, 99)", x.has(1, 99), 0);
        x.free(2, 99);
        CHECK.equal("has(2, 99)", x.has(2, 99), 1);
    }

    private static void writeIs(String written) {
        BindingBench x = Terms.bench(written);
        CHECK.equal("write of " + written, x.write(0), written.length());
        CHECK.equal("write of " + written, Terms.text(x, 0), written);
    }

    private static void write() {
        writeIs("0");
        writeIs("9");
        writeIs("10");
        writeIs("69");
        writeIs(".'");
        writeIs("..''");
        writeIs("(1 2)");
        writeIs("((1 2) 3)");
        writeIs("(1 (2 3))");
        writeIs("(((1 2) (3 4)) ((5 6) (7 8)))");
        writeIs(".(.(' '') (' .(.'' '')))");
        writeIs("(.(1 .(2 '')) .')");
        BindingBench x = Terms.bench("(1 2)");
        x.free(1, 99);
        CHECK.equal("write of 99", Terms.text(x, 1), "99");
    }

    private static void out() {
        BindingBench x = Terms.bench("(.' 42)", "7");
        x.write(0);
        int[] due = {'(', '.', '\'', ' ', '4', '2', ')'};
        for (int i = 0; i < due.length; i++) {
            CHECK.equal("out(" + i + ")", x.out(i), due[i]);
        }
        x.normal(0, 0);
        x.free(0, 3);
        CHECK.equal("OUT is what was written then", x.out(4), (int) '4');
        x.write(1);
        CHECK.equal("OUT is the last one written", x.out(0), (int) '7');
    }
}
