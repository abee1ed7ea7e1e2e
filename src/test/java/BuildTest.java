/** Promises 1 to 7: a new object, free, apply, bind, put, open, part. */
public final class BuildTest {
    private static final Check CHECK = new Check();

    public static void main(String[] args) {
        newObject();
        free();
        apply();
        bind();
        put();
        open();
        part();
        CHECK.end();
    }

    private static void due(String what, BindingBench x, int a, String written) {
        CHECK.equal(what, Terms.text(x, a), written);
    }

    private static void newObject() {
        BindingBench x = new BindingBench();
        for (int i = 0; i < 16; i++) {
            due("REGISTER " + i + " of a new object", x, i, "0");
        }
        BindingBench other = new BindingBench();
        other.free(3, 5);
        due("a REGISTER of another object", x, 3, "0");
    }

    private static void free() {
        BindingBench x = new BindingBench();
        x.free(0, 99);
        x.free(15, 10);
        x.free(1, 9);
        due("free(0, 99)", x, 0, "99");
        due("free(15, 10)", x, 15, "10");
        due("free(1, 9)", x, 1, "9");
        due("a REGISTER that no call named", x, 2, "0");
        Terms.set(x, 4, "(1 .')");
        x.free(4, 3);
        due("free over a greater term", x, 4, "3");
    }

    private static void apply() {
        BindingBench x = Terms.bench("1", ".'");
        CHECK.equal("apply(2, 0, 1)", x.apply(2, 0, 1), 4);
        due("apply(2, 0, 1)", x, 2, "(1 .')");
        CHECK.equal("apply(2, 2, 0)", x.apply(2, 2, 0), 6);
        due("apply(2, 2, 0)", x, 2, "((1 .') 1)");
        CHECK.equal("apply(0, 1, 0)", x.apply(0, 1, 0), 4);
        due("apply(0, 1, 0)", x, 0, "(.' 1)");
        CHECK.equal("apply(0, 0, 0)", x.apply(0, 0, 0), 9);
        due("apply(0, 0, 0)", x, 0, "((.' 1) (.' 1))");
        due("a part is left alone", x, 1, ".'");
    }

    private static void bind() {
        BindingBench x = Terms.bench("(5 (6 5))", ".(' 5)", "(5 .(5 .(5 ('' 6))))");
        CHECK.equal("bind(3, 0, 5)", x.bind(3, 0, 5), 6);
        due("bind(3, 0, 5)", x, 3, ".(' (6 '))");
        CHECK.equal("bind(3, 3, 6)", x.bind(3, 3, 6), 7);
        due("bind(3, 3, 6)", x, 3, "..(' ('' '))");
        CHECK.equal("bind(3, 1, 5)", x.bind(3, 1, 5), 5);
        due("bind below a FUNCTION", x, 3, "..(' '')");
        CHECK.equal("bind(3, 2, 5)", x.bind(3, 2, 5), 12);
        due("bind at several depths", x, 3, ".(' .('' .(''' ('' 6))))");
        CHECK.equal("bind(3, 0, 7)", x.bind(3, 0, 7), 6);
        due("bind of a FREE that it has not", x, 3, ".(5 (6 5))");
        CHECK.equal("bind(0, 0, 0)", x.bind(0, 0, 0), 6);
        due("bind onto itself", x, 0, ".(5 (6 5))");
        x.free(4, 99);
        x.bind(4, 4, 99);
        due("bind of FREE 99", x, 4, ".'");
        x.free(4, 0);
        x.bind(4, 4, 0);
        due("bind of FREE 0", x, 4, ".'");
    }

    private static void put() {
        BindingBench x = Terms.bench("(5 .(' (5 6)))", "(5 .(' 6))", "6");
        CHECK.equal("put(3, 0, 5, 1)", x.put(3, 0, 5, 1), 18);
        due("put(3, 0, 5, 1)", x, 3, "((5 .(' 6)) .(' ((5 .(' 6)) 6)))");
        CHECK.equal("put(3, 2, 6, 0)", x.put(3, 2, 6, 0), 8);
        due("put for the whole", x, 3, "(5 .(' (5 6)))");
        CHECK.equal("put(3, 0, 7, 1)", x.put(3, 0, 7, 1), 8);
        due("put for a FREE that it has not", x, 3, "(5 .(' (5 6)))");
        CHECK.equal("put(1, 0, 5, 1)", x.put(1, 0, 5, 1), 18);
        due("put onto b", x, 1, "((5 .(' 6)) .(' ((5 .(' 6)) 6)))");
        CHECK.equal("put(0, 0, 6, 0)", x.put(0, 0, 6, 0), 15);
        due("put of itself into itself", x, 0, "(5 .(' (5 (5 .(' (5 6))))))");
        // No name of b may come under another FUNCTION's: FREE 6 stays free below a FUNCTION that bound one.
        x.bind(4, 2, 6);
        Terms.set(x, 5, ".5");
        x.put(4, 5, 5, 2);
        due("put of what once was a bound name", x, 4, ".6");
    }

    private static void open() {
        BindingBench x = Terms.bench(".(' .('' (' 4)))", "(7 .(' 8))", ".5", "..''");
        CHECK.equal("open(4, 0, 1)", x.open(4, 0, 1), 18);
        due("open(4, 0, 1)", x, 4, "((7 .(' 8)) .((7 .(' 8)) (' 4)))");
        CHECK.equal("open(4, 2, 1)", x.open(4, 2, 1), 1);
        due("open without the VARIABLE", x, 4, "5");
        CHECK.equal("open(4, 3, 3)", x.open(4, 3, 3), 4);
        due("open of itself with itself", x, 4, "...''");
        CHECK.equal("open(0, 0, 2)", x.open(0, 0, 2), 10);
        due("open onto itself", x, 0, "(.5 .(.5 (' 4)))");
    }

    private static void part() {
        BindingBench x = Terms.bench("((1 2) .(' 3))");
        x.part(3, 0, false);
        due("the first part", x, 3, "(1 2)");
        x.part(3, 0, true);
        due("the second part", x, 3, ".(' 3)");
        due("the whole is left alone", x, 0, "((1 2) .(' 3))");
        x.part(0, 0, false);
        due("the first part onto itself", x, 0, "(1 2)");
        x.part(0, 0, true);
        due("the second part onto itself", x, 0, "2");
    }
}
