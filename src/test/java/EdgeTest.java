/** What the document names besides refused calls: an empty OUT, nothing to put or to reduce, the ends of what there is. */
public final class EdgeTest {
    private static final Check CHECK = new Check();
    private static final Class<IndexOutOfBoundsException> OUTSIDE = IndexOutOfBoundsException.class;

    /** One of the greatest SIZE, one of the greatest DEPTH, by (a b) and by FUNCTIONS. */
    private static final Calls GREATEST = x -> {
        Terms.sized(x, 0, 1, 2000);
        Terms.chain(x, 1, 1, 150);
        Terms.nested(x, 2, ".69", 149, "1");
    };

    public static void main(String[] args) {
        newObject();
        emptyOut();
        ends();
        putForNone();
        openForNone();
        stepWhereNone();
        partsOfGreatest();
        sameOfGreatest();
        aboutGreatest();
        aboutMostPlaces();
        outEnds();
        longestText();
        CHECK.end();
    }

    private static void newObject() {
        for (int i = 0; i < 16; i++) {
            BindingBench x = new BindingBench();
            int[] about = {1, 1, 0, 1, 0};
            for (int what = 0; what < about.length; what++) {
                CHECK.equal("about(" + i + ", " + what + ") of a new object", x.about(i, what), about[what]);
            }
            CHECK.equal("has(" + i + ", 0) of a new object", x.has(i, 0), 1);
            CHECK.equal("has(" + i + ", 1) of a new object", x.has(i, 1), 0);
            CHECK.equal("same of two of a new object", x.same(i, 15 - i), true);
            CHECK.equal("step of a new object", x.step(i, i), false);
            CHECK.equal("REGISTER " + i + " of a new object", Terms.text(x, i), "0");
        }
    }

    private static void emptyOut() {
        BindingBench x = new BindingBench();
        for (int i : new int[] {0, -1, 1, Integer.MAX_VALUE, Integer.MIN_VALUE}) {
            CHECK.fails("out(" + i + ") of a new object", OUTSIDE, () -> x.out(i));
        }
        CHECK.fails("write of no REGISTER", java.util.NoSuchElementException.class, () -> x.write(16));
        CHECK.fails("out(0) behind write that was refused", OUTSIDE, () -> x.out(0));
        x.bind(0, 0, 0);
        x.normal(1, 0);
        CHECK.fails("out(0) behind calls that do not write", OUTSIDE, () -> x.out(0));
        CHECK.equal("write", x.write(0), 2);
        CHECK.equal("out(1) behind write", x.out(1), (int) '\'');
        BindingBench y = new BindingBench();
        CHECK.fails("out(0) of a new object beside one with an OUT", OUTSIDE, () -> y.out(0));
    }

    private static void ends() {
        for (int r : new int[] {0, 15}) {
            for (int n : new int[] {0, 99}) {
                String free = Integer.toString(n);
                Calls made = x -> x.free(r, n);
                CHECK.equal("free(" + r + ", " + n + ")", Shown.written(made, r), free);
                CHECK.equal("has(" + r + ", " + n + ")", Shown.behind(made).has(r, n), 1);
                CHECK.equal("bind(" + r + ", " + r + ", " + n + ")",
                    Shown.written(made.and(x -> x.bind(r, r, n)), r), ".'");
                CHECK.equal("put(" + r + ", " + r + ", " + n + ", 7)",
                    Shown.written(made.and(x -> x.put(r, r, n, 7)), r), "37");
                CHECK.equal("apply(" + r + ", " + r + ", " + r + ")",
                    Shown.written(made.and(x -> x.apply(r, r, r)), r), "(" + free + " " + free + ")");
            }
        }
    }

    private static void putForNone() {
        for (int a = 0; a < 3; a++) {
            for (int n : new int[] {0, 2, 99}) {
                int from = a;
                String name = "put for FREE " + n + ", which there is not, in the great one " + a;
                Calls put = GREATEST.and(x -> x.put(9, from, n, 0));
                CHECK.equal(name, Shown.behind(GREATEST).put(9, a, n, 0), Shown.behind(GREATEST).about(a, 0));
                CHECK.equal(name, Shown.written(put, 9), Shown.written(GREATEST, a));
                CHECK.equal(name + ", itself into itself",
                    Shown.written(GREATEST.and(x -> x.put(from, from, n, from)), a), Shown.written(GREATEST, a));
            }
        }
        // What is bound is FREE no more.
        BindingBench x = Terms.bench("(5 6)", "7");
        x.bind(0, 0, 5);
        CHECK.equal("put for FREE 5, which is bound", x.put(2, 0, 5, 1), 4);
        CHECK.equal("put for FREE 5, which is bound", Terms.text(x, 2), ".(' 6)");
        CHECK.equal("bind of FREE 5, which is bound", x.bind(2, 0, 5), 5);
        CHECK.equal("bind of FREE 5, which is bound", Terms.text(x, 2), "..(' 6)");
    }

    private static void openForNone() {
        for (int b = 0; b < 3; b++) {
            int with = b;
            Calls open = GREATEST.and(x -> Terms.set(x, 3, ".(6 .7)")).and(x -> x.open(9, 3, with));
            CHECK.equal("open where the VARIABLE is at no place", Shown.written(open, 9), "(6 .7)");
        }
        Calls functions = GREATEST.and(x -> x.open(9, 2, 0));
        CHECK.equal("open of the greatest DEPTH", Shown.written(functions, 9), ".".repeat(148) + "1");
    }

    private static void stepWhereNone() {
        for (String term : new String[] {"7", "(7 8)", ".'", ".7", "(7 .')", "((7 .') .(' .'))", ".(' .(' ''))"}) {
            noStep(term, x -> Terms.set(x, 0, term), 0);
        }
        for (int a = 0; a < 3; a++) {
            noStep("the great one " + a, GREATEST, a);
        }
    }

    private static void noStep(String what, Calls before, int a) {
        CHECK.equal("step of " + what, Shown.behind(before).step(9, a), false);
        CHECK.equal("head of " + what, Shown.behind(before).head(9, a), 0);
        CHECK.equal("normal of " + what, Shown.behind(before).normal(9, a), 0);
        CHECK.equal("places of STEPS in " + what, Shown.behind(before).about(a, 4), 0);
        String due = Shown.written(before, a);
        for (int to : new int[] {9, a}) {
            CHECK.equal("step of " + what, Shown.written(before.and(x -> x.step(to, a)), to), due);
            CHECK.equal("head of " + what, Shown.written(before.and(x -> x.head(to, a)), to), due);
            CHECK.equal("normal of " + what, Shown.written(before.and(x -> x.normal(to, a)), to), due);
        }
    }

    private static void partsOfGreatest() {
        Calls size = x -> {
            Terms.sized(x, 1, 1, 1500);
            Terms.sized(x, 2, 2, 499);
            x.apply(0, 1, 2);
        };
        Calls depth = x -> {
            Terms.chain(x, 1, 1, 149);
            Terms.nested(x, 2, ".69", 148, "2");
            x.apply(0, 1, 2);
        };
        for (Calls before : new Calls[] {size, depth}) {
            for (int to : new int[] {9, 0}) {
                CHECK.equal("the first part of a great one", Shown.written(before.and(x -> x.part(to, 0, false)), to),
                    Shown.written(before, 1));
                CHECK.equal("the second part of a great one", Shown.written(before.and(x -> x.part(to, 0, true)), to),
                    Shown.written(before, 2));
            }
        }
    }

    /** (t n) and (t m): the last places alone differ. */
    private static void sameOfGreatest() {
        BindingBench x = Shown.behind(y -> {
            Terms.sized(y, 0, 1, 1998);
            y.apply(1, 0, 5);
            y.apply(2, 0, 6);
            y.apply(3, 0, 5);
        });
        CHECK.equal("SIZE of a great one", x.about(1, 0), 2000);
        CHECK.equal("same of two great ones", x.same(1, 3), true);
        CHECK.equal("same of two great ones that differ at the end", x.same(1, 2), false);
        CHECK.equal("same of one and a part of it", x.same(0, 1), false);
        BindingBench z = Shown.behind(GREATEST);
        for (int a = 0; a < 3; a++) {
            for (int b = 0; b < 3; b++) {
                CHECK.equal("same of the great ones " + a + " and " + b, z.same(a, b), a == b);
            }
        }
    }

    private static void aboutGreatest() {
        BindingBench x = Shown.behind(GREATEST);
        CHECK.equal("the greatest SIZE", x.about(0, 0), 2000);
        CHECK.equal("the greatest DEPTH, by (a b)", x.about(1, 1), 150);
        CHECK.equal("its SIZE", x.about(1, 0), 299);
        CHECK.equal("its kind", x.about(1, 2), 1);
        CHECK.equal("its places of FREE 1", x.has(1, 1), 150);
        CHECK.equal("the greatest DEPTH, by FUNCTIONS", x.about(2, 1), 150);
        CHECK.equal("its SIZE", x.about(2, 0), 150);
        CHECK.equal("its kind", x.about(2, 2), 2);
        CHECK.equal("its places of FREE 1", x.has(2, 1), 1);
    }

    private static void aboutMostPlaces() {
        BindingBench x = new BindingBench();
        for (int n = 0; n < 100; n++) {
            x.free(1, n);
            x.apply(0, 0, 1);
        }
        CHECK.equal("different FREE ones of all", x.about(0, 3), 100);
        CHECK.equal("has of one that is there twice", x.has(0, 0), 2);
        CHECK.equal("has of the last", x.has(0, 99), 1);
        BindingBench y = Shown.behind(z -> {
            Terms.copies(z, 0, "1", 1000);
            Terms.copies(z, 1, "(.' 1)", 400);
            Terms.nested(z, 2, ".69", 140, "1");
            z.bind(2, 2, 1);
        });
        CHECK.equal("places of a FREE in a great one", y.has(0, 1), 1000);
        CHECK.equal("places of a FREE that there is not", y.has(0, 2), 0);
        CHECK.equal("places of STEPS in a great one", y.about(1, 4), 400);
        CHECK.equal("different FREE ones of none", y.about(2, 3), 0);
        CHECK.equal("places of a FREE where there is none", y.has(2, 0), 0);
    }

    private static void outEnds() {
        BindingBench x = Terms.bench("(1 2)", "7");
        CHECK.equal("write of (1 2)", x.write(0), 5);
        CHECK.equal("its first byte", x.out(0), (int) '(');
        CHECK.equal("its last byte", x.out(4), (int) ')');
        CHECK.fails("the byte behind its last", OUTSIDE, () -> x.out(5));
        CHECK.fails("the byte before its first", OUTSIDE, () -> x.out(-1));
        x.free(0, 3);
        CHECK.equal("OUT when the REGISTER has changed", x.out(1), (int) '1');
        CHECK.equal("write of a shorter one", x.write(1), 1);
        CHECK.equal("its first byte", x.out(0), (int) '7');
        CHECK.fails("what the longer one had there", OUTSIDE, () -> x.out(1));
    }

    private static void longestText() {
        BindingBench x = new BindingBench();
        Terms.longText(x, 2);
        CHECK.equal("DEPTH of a long text's term", x.about(2, 1), 150);
        int length = 140 + 511 * 3 + 512 * 140;
        CHECK.equal("write with 140 marks each", x.write(2), length);
        CHECK.equal("its first byte", x.out(0), (int) '.');
        CHECK.equal("its last mark", x.out(length - 10), (int) '\'');
        CHECK.equal("its last byte", x.out(length - 1), (int) ')');
        CHECK.fails("what is behind it", OUTSIDE, () -> x.out(length));
        CHECK.equal("a short text behind it", Terms.text(x, 5), "0");
        CHECK.fails("what is behind a short text", OUTSIDE, () -> x.out(1));
    }
}
