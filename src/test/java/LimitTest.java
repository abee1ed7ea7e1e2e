/** Promises 3 to 6 and 8 to 10, just at the greatest SIZE and DEPTH, and one beyond. */
public final class LimitTest {
    private static final Check CHECK = new Check();
    private static final Class<IllegalStateException> BEYOND = IllegalStateException.class;
    private static final int SIZE = 0;
    private static final int DEPTH = 1;
    private static final int[] MOST = {2000, 150};

    /** To another REGISTER, and onto those that the term is made from. */
    private static final int[] TARGETS = {15, 0, 1};

    /** A call that makes the REGISTER to: the SIZE of what it made. */
    private interface Maker {
        int make(BindingBench x, int to);
    }

    private static final Maker STEP = (x, to) -> x.step(to, 0) ? x.about(to, SIZE) : 0;
    private static final Maker HEAD = (x, to) -> x.head(to, 0) == 1 ? x.about(to, SIZE) : 0;
    private static final Maker NORMAL = (x, to) -> x.normal(to, 0) == 1 ? x.about(to, SIZE) : 0;

    public static void main(String[] args) {
        apply();
        bind();
        fillAll("put", x -> { }, (x, to) -> x.put(to, 0, 5, 1));
        fillAll("open", x -> x.bind(0, 0, 5), (x, to) -> x.open(to, 0, 1));
        oneStep();
        oneStepOfPart();
        oneStepInside();
        onTheWay();
        farBeyond();
        CHECK.end();
    }

    private static Calls sizes(int a, int b) {
        return x -> {
            Terms.sized(x, 0, 1, a);
            Terms.sized(x, 1, 2, b);
        };
    }

    private static Calls depths(int a, int b) {
        return x -> {
            Terms.chain(x, 0, 1, a);
            Terms.chain(x, 1, 2, b);
        };
    }

    private static Calls sizedSecond(String first, int size) {
        return x -> {
            Terms.set(x, 0, first);
            Terms.sized(x, 1, 2, size);
        };
    }

    private static Calls deepSecond(String first, int depth) {
        return x -> {
            Terms.set(x, 0, first);
            Terms.chain(x, 1, 2, depth);
        };
    }

    /** A text with the REGISTERS' own for A, B and C: as no REGISTER has a VARIABLE from outside, it goes in as it is. */
    private static String filled(String written, Calls before) {
        return written.replace("A", Shown.written(before, 0)).replace("B", Shown.written(before, 1))
            .replace("C", Shown.written(before, 2));
    }

    /** That the call makes this term, just as great as it may be. */
    private static void made(String what, int limit, Calls before, Maker maker, String written) {
        for (int to : TARGETS) {
            String name = what + ", to REGISTER " + to;
            BindingBench x = Shown.behind(before);
            String answer = Shown.answer(() -> maker.make(x, to));
            CHECK.equal(name, answer, Integer.toString(x.about(to, SIZE)));
            CHECK.equal(name + ": about", x.about(to, limit), MOST[limit]);
            CHECK.equal(name, Shown.written(before.and(y -> Shown.answer(() -> maker.make(y, to))), to),
                filled(written, before));
        }
    }

    private static void refused(String what, Calls before, Maker maker) {
        for (int to : TARGETS) {
            CHECK.refused(what + " and one beyond, to REGISTER " + to, BEYOND, before, x -> maker.make(x, to));
        }
    }

    private static void apply() {
        Maker both = (x, to) -> x.apply(to, 0, 1);
        made("apply of SIZE 1,000 and 999", SIZE, sizes(1000, 999), both, "(A B)");
        made("apply of SIZE 1 and 1,998", SIZE, sizes(1, 1998), both, "(A B)");
        made("apply of SIZE 1,998 and 1", SIZE, sizes(1998, 1), both, "(A B)");
        refused("apply of SIZE 1,000 and 1,000", sizes(1000, 1000), both);
        refused("apply of SIZE 1 and 1,999", sizes(1, 1999), both);
        refused("apply of SIZE 1,999 and 1", sizes(1999, 1), both);
        made("apply of DEPTH 149 and 1", DEPTH, depths(149, 1), both, "(A B)");
        made("apply of DEPTH 1 and 149", DEPTH, depths(1, 149), both, "(A B)");
        made("apply of DEPTH 149 and 149", DEPTH, depths(149, 149), both, "(A B)");
        refused("apply of DEPTH 150 and 1", depths(150, 1), both);
        refused("apply of DEPTH 1 and 150", depths(1, 150), both);
        refused("apply of DEPTH 150 and 150", depths(150, 150), both);
    }

    private static void bind() {
        Maker missing = (x, to) -> x.bind(to, 0, 7);
        Maker present = (x, to) -> x.bind(to, 0, 1);
        made("bind of SIZE 1,999", SIZE, sizes(1999, 1), missing, ".A");
        made("bind of DEPTH 149", DEPTH, depths(149, 1), missing, ".A");
        String chain = Shown.written(depths(149, 1), 0);
        made("bind of DEPTH 149, with its FREE", DEPTH, depths(149, 1), present, "." + chain.replace('1', '\''));
        for (Maker bind : new Maker[] {missing, present}) {
            refused("bind of SIZE 2,000", sizes(2000, 1), bind);
            refused("bind of DEPTH 150", depths(150, 1), bind);
        }
        Calls functions = x -> Terms.nested(x, 0, ".69", 148, "1");
        made("bind of 148 FUNCTIONS", DEPTH, functions, present, ".".repeat(149) + "'".repeat(149));
        refused("bind of 149 FUNCTIONS", x -> Terms.nested(x, 0, ".69", 149, "1"), present);
    }

    private static void fillAll(String name, Calls ready, Maker maker) {
        fill(name, ready, maker);
        fillAtSeveralPlaces(name, ready, maker);
        fillDeepDown(name, ready, maker);
    }

    /** b in place of FREE 5 in REGISTER 0: by put, or by open when FREE 5 has been bound. */
    private static void fill(String name, Calls ready, Maker maker) {
        made(name + " for one of two, to SIZE", SIZE, sizedSecond("(5 6)", 1998).and(ready), maker, "(B 6)");
        refused(name + " for one of two, to SIZE", sizedSecond("(5 6)", 1999).and(ready), maker);
        made(name + " for the whole, to SIZE", SIZE, sizedSecond("5", 2000).and(ready), maker, "B");
        made(name + " for one of two, to DEPTH", DEPTH, deepSecond("(6 5)", 149).and(ready), maker, "(6 B)");
        refused(name + " for one of two, to DEPTH", deepSecond("(6 5)", 150).and(ready), maker);
        made(name + " below a FUNCTION, to DEPTH", DEPTH, deepSecond(".5", 149).and(ready), maker, ".B");
        refused(name + " below a FUNCTION, to DEPTH", deepSecond(".5", 150).and(ready), maker);
        made(name + " for the whole, to DEPTH", DEPTH, deepSecond("5", 150).and(ready), maker, "B");
    }

    private static void fillAtSeveralPlaces(String name, Calls ready, Maker maker) {
        made(name + " at three places, to SIZE", SIZE, sizedSecond("((5 5) 5)", 666).and(ready), maker, "((B B) B)");
        refused(name + " at three places, to SIZE", sizedSecond(".((5 5) 5)", 666).and(ready), maker);
        Calls many = x -> {
            Terms.copies(x, 0, "5", 500);
            x.bind(0, 0, 7);
            Terms.set(x, 1, "(2 2)");
        };
        made(name + " at 500 places, to SIZE", SIZE, many.and(ready), maker, Shown.written(many, 0).replace("5", "B"));
        refused(name + " at 500 places, to SIZE", many.and(x -> x.bind(0, 0, 7)).and(ready), maker);
        Calls great = x -> {
            Terms.copies(x, 0, "5", 999);
            Terms.sized(x, 1, 2, 2000);
        };
        refused(name + " of SIZE 2,000 at 999 places", great.and(ready), maker);
    }

    private static void fillDeepDown(String name, Calls ready, Maker maker) {
        Calls hundred = x -> Terms.nested(x, 0, "(1 69)", 99, "5");
        made(name + " at DEPTH 100, to DEPTH", DEPTH, hundred.and(x -> Terms.chain(x, 1, 2, 51)).and(ready), maker,
            "(1 ".repeat(99) + "B" + ")".repeat(99));
        refused(name + " at DEPTH 100, to DEPTH", hundred.and(x -> Terms.chain(x, 1, 2, 52)).and(ready), maker);
        refused(name + " at DEPTH 100 of DEPTH 150", hundred.and(x -> Terms.chain(x, 1, 2, 150)).and(ready), maker);
        // Another place is just as deep.
        Calls beside = x -> {
            Terms.nested(x, 0, "(1 69)", 147, "2");
            Terms.set(x, 1, "5");
            x.apply(0, 0, 1);
        };
        made(name + " beside DEPTH 149", DEPTH, beside.and(x -> Terms.chain(x, 1, 2, 149)).and(ready), maker,
            "(" + "(1 ".repeat(147) + "2" + ")".repeat(147) + " B)");
        refused(name + " beside DEPTH 149", beside.and(x -> Terms.chain(x, 1, 2, 150)).and(ready), maker);
    }

    /** REGISTER 0 is the first at what REGISTER 1 is made: one STEP, which is of the HEAD. */
    private static Calls joined(Calls firstAndSecond) {
        return firstAndSecond.and(x -> x.apply(0, 0, 1));
    }

    private static void oneStep() {
        for (Maker maker : new Maker[] {STEP, HEAD, NORMAL}) {
            made("one STEP to SIZE", SIZE, joined(sizedSecond("..('' '')", 999)), maker, ".(B B)");
            refused("one STEP to SIZE", joined(sizedSecond(".(' (' 6))", 999)), maker);
            made("one STEP to SIZE, three places", SIZE, joined(sizedSecond(".((' ') ')", 666)), maker, "((B B) B)");
            refused("one STEP to SIZE, three places", joined(sizedSecond("..(('' '') '')", 666)), maker);
            made("one STEP to DEPTH", DEPTH, joined(deepSecond(".(6 ')", 149)), maker, "(6 B)");
            made("one STEP to DEPTH, two more", DEPTH, joined(deepSecond(".((' 6) 6)", 148)), maker, "((B 6) 6)");
            refused("one STEP to DEPTH, two more", joined(deepSecond(".((' 6) 6)", 149)), maker);
            made("one STEP to DEPTH below FUNCTIONS", DEPTH, joined(deepSecond("...'''", 148)), maker, "..B");
            refused("one STEP to DEPTH below FUNCTIONS", joined(deepSecond("...'''", 149)), maker);
        }
    }

    /** The whole counts, not just the part at which the STEP is. */
    private static void oneStepOfPart() {
        for (Maker maker : new Maker[] {STEP, HEAD, NORMAL}) {
            made("one STEP of a part to SIZE", SIZE, beside(sizedSecond(".(' ')", 600), 798), maker, "((B B) C)");
            refused("one STEP of a part to SIZE", beside(sizedSecond(".(' ')", 600), 799), maker);
            made("one STEP of a part to DEPTH", DEPTH, beside(deepSecond(".(' ')", 148), 1), maker, "((B B) C)");
            refused("one STEP of a part to DEPTH", beside(deepSecond(".(' (' 6))", 148), 1), maker);
        }
    }

    /** As joined, and at a term of this SIZE. */
    private static Calls beside(Calls firstAndSecond, int size) {
        return joined(firstAndSecond).and(x -> {
            Terms.sized(x, 2, 3, size);
            x.apply(0, 0, 2);
        });
    }

    /** STEPS that are not of the HEAD: below a FUNCTION, and in a second part. */
    private static void oneStepInside() {
        for (Maker maker : new Maker[] {STEP, NORMAL}) {
            Calls below = joined(sizedSecond(".(' ')", 999)).and(x -> x.bind(0, 0, 7));
            made("one STEP below a FUNCTION to SIZE", SIZE, below, maker, ".(B B)");
            refused("one STEP below two FUNCTIONS to SIZE", below.and(x -> x.bind(0, 0, 7)), maker);
            Calls second = joined(sizedSecond("..('' '')", 998)).and(x -> x.apply(0, 2, 0));
            made("one STEP of a second part to SIZE", SIZE, second, maker, "(C .(B B))");
            refused("one STEP of a second part to SIZE", second.and(x -> x.bind(0, 0, 7)), maker);
            Calls deep = joined(deepSecond(".(6 ')", 147)).and(x -> x.apply(0, 2, 0));
            made("one STEP of a second part to DEPTH", DEPTH, deep.and(x -> x.bind(0, 0, 7)), maker, ".(C (6 B))");
            Calls deeper = joined(deepSecond(".(6 (6 '))", 147)).and(x -> x.apply(0, 2, 0));
            refused("one STEP of a second part to DEPTH", deeper.and(x -> x.bind(0, 0, 7)), maker);
        }
    }

    /** What the first STEP makes counts, though the second drops it. */
    private static void onTheWay() {
        Maker head = (x, to) -> x.head(to, 0);
        Maker normal = (x, to) -> x.normal(to, 0);
        for (Maker maker : new Maker[] {head, normal}) {
            dropped("to SIZE on the way", joined(sizedSecond(".(.6 (' '))", 998)), maker, "6");
            refused("to SIZE on the way", joined(sizedSecond(".(..6 (' '))", 998)), maker);
            dropped("to DEPTH on the way", joined(deepSecond(".(.6 (' 7))", 148)), maker, "6");
            refused("to DEPTH on the way", joined(deepSecond(".(.6 (' 7))", 149)), maker);
        }
    }

    private static void dropped(String what, Calls before, Maker maker, String written) {
        for (int to : TARGETS) {
            CHECK.equal("STEPS " + what, Shown.answer(() -> maker.make(Shown.behind(before), to)), "2");
            Calls behind = before.and(x -> Shown.answer(() -> maker.make(x, to)));
            CHECK.equal(what + " to REGISTER " + to, Shown.written(behind, to), written);
        }
    }

    private static void farBeyond() {
        Calls applied = joined(x -> {
            Terms.copies(x, 0, "5", 499);
            x.bind(0, 0, 5);
            Terms.sized(x, 1, 2, 1000);
        });
        Calls deep = joined(x -> {
            Terms.nested(x, 0, "(1 69)", 140, "5");
            x.bind(0, 0, 5);
            Terms.chain(x, 1, 2, 149);
        });
        for (Maker maker : new Maker[] {STEP, HEAD, NORMAL}) {
            refused("a STEP with SIZE 1,000 at 499 places", applied, maker);
            refused("a STEP to DEPTH 289", deep, maker);
        }
    }
}
