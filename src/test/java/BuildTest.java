import java.util.NoSuchElementException;

/** Promises 1 to 7: a new object, free, apply, bind, put, open, part. */
public final class BuildTest {
    private static final Check CHECK = new Check();
    private static final Class<NoSuchElementException> MISSING = NoSuchElementException.class;
    private static final Class<IllegalStateException> BEYOND = IllegalStateException.class;
    private static final Class<IllegalArgumentException> UNFIT = IllegalArgumentException.class;

    public static void main(String[] args) {
        newObject();
        free();
        apply();
        applyBeyond();
        bind();
        bindBeyond();
        put();
        putBeyond();
        open();
        openBeyond();
        part();
        CHECK.end();
    }

    private static void due(String what, BindingBench x, int a, String written) {
        CHECK.equal(what, Terms.text(x, a), written);
    }

    private static void newObject() {
        BindingBench x = new BindingBench();
        CHECK.fails("out(0) of a new object", IndexOutOfBoundsException.class, () -> x.out(0));
        CHECK.fails("out(-1) of a new object", IndexOutOfBoundsException.class, () -> x.out(-1));
        for (int i = 0; i < 16; i++) {
            due("REGISTER " + i + " of a new object", x, i, "0");
        }
        BindingBench other = new BindingBench();
        other.free(3, 5);
        due("a REGISTER of another object", x, 3, "0");
    }

    private static void free() {
        BindingBench x = new BindingBench();
        x.free(0, 99);
        x.free(15, 10);
        x.free(1, 9);
        due("free(0, 99)", x, 0, "99");
        due("free(15, 10)", x, 15, "10");
        due("free(1, 9)", x, 1, "9");
        due("a REGISTER that no call named", x, 2, "0");
        CHECK.fails("free(16, 0)", MISSING, () -> x.free(16, 0));
        CHECK.fails("free(-1, 0)", MISSING, () -> x.free(-1, 0));
        CHECK.fails("free(0, 100)", MISSING, () -> x.free(0, 100));
        CHECK.fails("free(0, -1)", MISSING, () -> x.free(0, -1));
        CHECK.fails("free(least, most)", MISSING, () -> x.free(Integer.MIN_VALUE, Integer.MAX_VALUE));
        due("REGISTER 0 behind free that failed", x, 0, "99");
        Terms.set(x, 4, "(1 .')");
        x.free(4, 3);
        due("free over a greater term", x, 4, "3");
    }

    private static void apply() {
        BindingBench x = Terms.bench("1", ".'");
        CHECK.equal("apply(2, 0, 1)", x.apply(2, 0, 1), 4);
        due("apply(2, 0, 1)", x, 2, "(1 .')");
        CHECK.equal("apply(2, 2, 0)", x.apply(2, 2, 0), 6);
        due("apply(2, 2, 0)", x, 2, "((1 .') 1)");
        CHECK.equal("apply(0, 1, 0)", x.apply(0, 1, 0), 4);
        due("apply(0, 1, 0)", x, 0, "(.' 1)");
        CHECK.equal("apply(0, 0, 0)", x.apply(0, 0, 0), 9);
        due("apply(0, 0, 0)", x, 0, "((.' 1) (.' 1))");
        due("a part is left alone", x, 1, ".'");
        CHECK.fails("apply(16, 0, 0)", MISSING, () -> x.apply(16, 0, 0));
        CHECK.fails("apply(0, 16, 0)", MISSING, () -> x.apply(0, 16, 0));
        CHECK.fails("apply(0, 0, -1)", MISSING, () -> x.apply(0, 0, -1));
        due("REGISTER 0 behind apply that failed", x, 0, "((.' 1) (.' 1))");
    }

    private static void applyBeyond() {
        BindingBench x = new BindingBench();
        Terms.greatest(x, 0, 1);
        CHECK.equal("SIZE of the greatest without a FUNCTION", x.about(0, 0), 1999);
        x.free(2, 7);
        CHECK.fails("apply to SIZE 2,001", BEYOND, () -> x.apply(2, 0, 2));
        CHECK.fails("apply to SIZE 3,999", BEYOND, () -> x.apply(2, 0, 0));
        due("REGISTER 2 behind apply that failed", x, 2, "7");

        // SIZE 1,023 and 975 make 1,999; with a FUNCTION around the second they make 2,000.
        BindingBench y = new BindingBench();
        Terms.greatest(y, 0, 1);
        y.part(1, 0, false);
        y.part(2, 0, true);
        y.bind(2, 2, 0);
        CHECK.equal("apply to SIZE 2,000", y.apply(3, 1, 2), 2000);
        y.bind(1, 1, 0);
        CHECK.fails("apply to SIZE 2,001 of two", BEYOND, () -> y.apply(3, 1, 2));
        CHECK.equal("REGISTER 3 behind apply that failed", y.about(3, 0), 2000);

        BindingBench z = new BindingBench();
        Terms.chain(z, 0, 1, 149);
        CHECK.equal("apply to DEPTH 150", z.apply(1, 2, 0), 299);
        CHECK.equal("DEPTH 150", z.about(1, 1), 150);
        CHECK.fails("apply to DEPTH 151 at the first", BEYOND, () -> z.apply(0, 1, 2));
        CHECK.fails("apply to DEPTH 151 at the second", BEYOND, () -> z.apply(0, 2, 1));
        CHECK.equal("REGISTER 0 behind apply that failed", z.about(0, 1), 149);
    }

    private static void bind() {
        BindingBench x = Terms.bench("(5 (6 5))", ".(' 5)", "(5 .(5 .(5 ('' 6))))");
        CHECK.equal("bind(3, 0, 5)", x.bind(3, 0, 5), 6);
        due("bind(3, 0, 5)", x, 3, ".(' (6 '))");
        CHECK.equal("bind(3, 3, 6)", x.bind(3, 3, 6), 7);
        due("bind(3, 3, 6)", x, 3, "..(' ('' '))");
        CHECK.equal("bind(3, 1, 5)", x.bind(3, 1, 5), 5);
        due("bind below a FUNCTION", x, 3, "..(' '')");
        CHECK.equal("bind(3, 2, 5)", x.bind(3, 2, 5), 12);
        due("bind at several depths", x, 3, ".(' .('' .(''' ('' 6))))");
        CHECK.equal("bind(3, 0, 7)", x.bind(3, 0, 7), 6);
        due("bind of a FREE that it has not", x, 3, ".(5 (6 5))");
        CHECK.equal("bind(0, 0, 0)", x.bind(0, 0, 0), 6);
        due("bind onto itself", x, 0, ".(5 (6 5))");
        x.free(4, 99);
        x.bind(4, 4, 99);
        due("bind of FREE 99", x, 4, ".'");
        x.free(4, 0);
        x.bind(4, 4, 0);
        due("bind of FREE 0", x, 4, ".'");
        CHECK.fails("bind(16, 0, 0)", MISSING, () -> x.bind(16, 0, 0));
        CHECK.fails("bind(0, -1, 0)", MISSING, () -> x.bind(0, -1, 0));
        CHECK.fails("bind(0, 0, 100)", MISSING, () -> x.bind(0, 0, 100));
        CHECK.fails("bind(0, 0, -1)", MISSING, () -> x.bind(0, 0, -1));
        CHECK.fails("bind(0, 0, -2)", MISSING, () -> x.bind(0, 0, -2));
        due("REGISTER 0 behind bind that failed", x, 0, ".(5 (6 5))");
    }

    private static void bindBeyond() {
        BindingBench x = new BindingBench();
        Terms.greatest(x, 0, 1);
        CHECK.equal("bind to SIZE 2,000", x.bind(0, 0, 1), 2000);
        CHECK.fails("bind to SIZE 2,001", BEYOND, () -> x.bind(0, 0, 1));
        CHECK.equal("SIZE behind bind that failed", x.about(0, 0), 2000);
        BindingBench y = new BindingBench();
        Terms.chain(y, 0, 1, 149);
        CHECK.equal("bind to DEPTH 150", y.bind(0, 0, 1), 298);
        CHECK.fails("bind to DEPTH 151", BEYOND, () -> y.bind(0, 0, 1));
        CHECK.equal("DEPTH behind bind that failed", y.about(0, 1), 150);
    }

    private static void put() {
        BindingBench x = Terms.bench("(5 .(' (5 6)))", "(5 .(' 6))", "6");
        CHECK.equal("put(3, 0, 5, 1)", x.put(3, 0, 5, 1), 18);
        due("put(3, 0, 5, 1)", x, 3, "((5 .(' 6)) .(' ((5 .(' 6)) 6)))");
        CHECK.equal("put(3, 2, 6, 0)", x.put(3, 2, 6, 0), 8);
        due("put for the whole", x, 3, "(5 .(' (5 6)))");
        CHECK.equal("put(3, 0, 7, 1)", x.put(3, 0, 7, 1), 8);
        due("put for a FREE that it has not", x, 3, "(5 .(' (5 6)))");
        CHECK.equal("put(1, 0, 5, 1)", x.put(1, 0, 5, 1), 18);
        due("put onto b", x, 1, "((5 .(' 6)) .(' ((5 .(' 6)) 6)))");
        CHECK.equal("put(0, 0, 6, 0)", x.put(0, 0, 6, 0), 15);
        due("put of itself into itself", x, 0, "(5 .(' (5 (5 .(' (5 6))))))");
        // No name of b may come under another FUNCTION's: FREE 6 stays free below a FUNCTION that bound one.
        x.bind(4, 2, 6);
        Terms.set(x, 5, ".5");
        x.put(4, 5, 5, 2);
        due("put of what once was a bound name", x, 4, ".6");
        CHECK.fails("put(16, 0, 0, 0)", MISSING, () -> x.put(16, 0, 0, 0));
        CHECK.fails("put(0, 16, 0, 0)", MISSING, () -> x.put(0, 16, 0, 0));
        CHECK.fails("put(0, 0, 100, 0)", MISSING, () -> x.put(0, 0, 100, 0));
        CHECK.fails("put(0, 0, -1, 0)", MISSING, () -> x.put(0, 0, -1, 0));
        CHECK.fails("put(0, 0, 0, 16)", MISSING, () -> x.put(0, 0, 0, 16));
        due("REGISTER 0 behind put that failed", x, 0, "(5 .(' (5 (5 .(' (5 6))))))");
    }

    private static void putBeyond() {
        BindingBench x = new BindingBench();
        Terms.greatest(x, 0, 1);
        Terms.set(x, 1, "(2 2)");
        x.free(3, 8);
        CHECK.fails("put to SIZE 3,999", BEYOND, () -> x.put(3, 0, 1, 1));
        CHECK.fails("put to SIZE 2,000,000 and more", BEYOND, () -> x.put(3, 0, 1, 0));
        due("REGISTER 3 behind put that failed", x, 3, "8");
        CHECK.equal("put of a great term for none", x.put(3, 0, 2, 0), 1999);
        x.free(1, 2);
        CHECK.equal("put of a small one", x.put(3, 0, 1, 1), 1999);
        CHECK.equal("put of a small one: places", x.has(3, 2), 1000);

        BindingBench y = new BindingBench();
        Terms.chain(y, 0, 1, 100);
        Terms.chain(y, 1, 2, 51);
        CHECK.fails("put to SIZE beyond", BEYOND, () -> y.put(2, 0, 1, 1));
        // One place of FREE 3, at DEPTH 100.
        y.free(2, 3);
        y.free(3, 1);
        for (int i = 1; i < 100; i++) {
            y.apply(2, 2, 3);
        }
        CHECK.equal("put to DEPTH 150", y.put(4, 2, 3, 1), 299);
        CHECK.equal("DEPTH 150", y.about(4, 1), 150);
        Terms.chain(y, 1, 2, 52);
        CHECK.fails("put to DEPTH 151", BEYOND, () -> y.put(4, 2, 3, 1));
        CHECK.equal("DEPTH behind put that failed", y.about(4, 1), 150);
    }

    private static void open() {
        BindingBench x = Terms.bench(".(' .('' (' 4)))", "(7 .(' 8))", ".5", "..''");
        CHECK.equal("open(4, 0, 1)", x.open(4, 0, 1), 18);
        due("open(4, 0, 1)", x, 4, "((7 .(' 8)) .((7 .(' 8)) (' 4)))");
        CHECK.equal("open(4, 2, 1)", x.open(4, 2, 1), 1);
        due("open without the VARIABLE", x, 4, "5");
        CHECK.equal("open(4, 3, 3)", x.open(4, 3, 3), 4);
        due("open of itself with itself", x, 4, "...''");
        CHECK.equal("open(0, 0, 2)", x.open(0, 0, 2), 10);
        due("open onto itself", x, 0, "(.5 .(.5 (' 4)))");
        CHECK.fails("open of (a b)", UNFIT, () -> x.open(4, 0, 1));
        x.free(5, 5);
        CHECK.fails("open of FREE", UNFIT, () -> x.open(4, 5, 1));
        CHECK.fails("open(16, 3, 1)", MISSING, () -> x.open(16, 3, 1));
        CHECK.fails("open(4, 16, 1)", MISSING, () -> x.open(4, 16, 1));
        CHECK.fails("open(4, 3, 16)", MISSING, () -> x.open(4, 3, 16));
        CHECK.fails("open of no FUNCTION with no REGISTER", MISSING, () -> x.open(4, 0, 16));
        CHECK.fails("open of no FUNCTION to no REGISTER", MISSING, () -> x.open(-1, 0, 1));
        due("REGISTER 4 behind open that failed", x, 4, "...''");
    }

    private static void openBeyond() {
        BindingBench x = new BindingBench();
        Terms.greatest(x, 0, 1);
        x.bind(1, 0, 1);
        Terms.set(x, 2, "(1 1)");
        x.free(3, 8);
        CHECK.fails("open to SIZE 3,999", BEYOND, () -> x.open(3, 1, 2));
        due("REGISTER 3 behind open that failed", x, 3, "8");
        CHECK.equal("open with a small one", x.open(3, 1, 3), 1999);
        Terms.set(x, 2, ".6");
        CHECK.equal("open away a great one", x.open(3, 2, 1), 1);
        Terms.set(x, 2, ".(' 6)");
        CHECK.fails("open to SIZE 2,002", BEYOND, () -> x.open(3, 2, 1));
        CHECK.fails("open to SIZE 2,001", BEYOND, () -> x.open(3, 2, 0));
        Terms.set(x, 2, "..''");
        CHECK.equal("open to SIZE 2,000", x.open(4, 2, 0), 2000);
        CHECK.fails("open to SIZE 2,001 with a FUNCTION", BEYOND, () -> x.open(4, 2, 1));

        BindingBench y = new BindingBench();
        Terms.chain(y, 0, 1, 149);
        Terms.set(y, 1, "..''");
        CHECK.equal("open to DEPTH 150", y.open(2, 1, 0), 298);
        CHECK.fails("open to DEPTH 151", BEYOND, () -> y.open(2, 1, 2));
        CHECK.equal("DEPTH behind open that failed", y.about(2, 1), 150);
    }

    private static void part() {
        BindingBench x = Terms.bench("((1 2) .(' 3))", ".(1 2)", "4");
        x.part(3, 0, false);
        due("the first part", x, 3, "(1 2)");
        x.part(3, 0, true);
        due("the second part", x, 3, ".(' 3)");
        due("the whole is left alone", x, 0, "((1 2) .(' 3))");
        x.part(0, 0, false);
        due("the first part onto itself", x, 0, "(1 2)");
        x.part(0, 0, true);
        due("the second part onto itself", x, 0, "2");
        CHECK.fails("part of FUNCTION", UNFIT, () -> x.part(3, 1, false));
        CHECK.fails("part of FREE", UNFIT, () -> x.part(3, 2, true));
        CHECK.fails("part(16, 0, false)", MISSING, () -> x.part(16, 0, false));
        CHECK.fails("part(3, -1, true)", MISSING, () -> x.part(3, -1, true));
        CHECK.fails("part of FUNCTION to no REGISTER", MISSING, () -> x.part(16, 1, false));
        due("REGISTER 3 behind part that failed", x, 3, ".(' 3)");
    }
}
