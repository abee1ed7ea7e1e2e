import java.util.NoSuchElementException;

/** Calls that are refused for their arguments: what they throw, and that nothing changes. */
public final class RefusedTest {
    private static final Check CHECK = new Check();
    private static final int LEAST = Integer.MIN_VALUE;
    private static final int MOST = Integer.MAX_VALUE;

    /** A FUNCTION, an (a b), a FREE, one of the greatest SIZE and one of the greatest DEPTH. */
    private static final Calls BEFORE = x -> {
        Terms.set(x, 0, ".(' 5)");
        Terms.set(x, 1, "(.' 6)");
        Terms.set(x, 2, "5");
        Terms.sized(x, 3, 5, 2000);
        Terms.chain(x, 4, 5, 150);
        x.write(1);
    };

    public static void main(String[] args) {
        for (int r : new int[] {-1, 16, 17, 256, LEAST, MOST}) {
            noSuchTarget(r);
            noSuchSource(r);
            noSuchQuestion(r);
        }
        for (int n : new int[] {-1, -2, 100, 101, 256, LEAST, MOST}) {
            noSuchFree(n);
        }
        noSuchComesFirst();
        openOfNoFunction();
        partOfNone();
        aboutWhat();
        outOfNothing();
        CHECK.end();
    }

    private static void missing(String what, Calls call) {
        CHECK.refused(what, NoSuchElementException.class, BEFORE, call);
    }

    private static void unfit(String what, Calls call) {
        CHECK.refused(what, IllegalArgumentException.class, BEFORE, call);
    }

    private static void noSuchTarget(int r) {
        missing("free(" + r + ", 5)", x -> x.free(r, 5));
        missing("apply(" + r + ", 1, 2)", x -> x.apply(r, 1, 2));
        missing("bind(" + r + ", 1, 5)", x -> x.bind(r, 1, 5));
        missing("put(" + r + ", 1, 5, 2)", x -> x.put(r, 1, 5, 2));
        missing("open(" + r + ", 0, 2)", x -> x.open(r, 0, 2));
        missing("part(" + r + ", 1, false)", x -> x.part(r, 1, false));
        missing("step(" + r + ", 1)", x -> x.step(r, 1));
        missing("step(" + r + ", 2), where there is none", x -> x.step(r, 2));
        missing("head(" + r + ", 1)", x -> x.head(r, 1));
        missing("normal(" + r + ", 1)", x -> x.normal(r, 1));
    }

    private static void noSuchSource(int r) {
        missing("apply(0, " + r + ", 2)", x -> x.apply(0, r, 2));
        missing("apply(0, 1, " + r + ")", x -> x.apply(0, 1, r));
        missing("bind(0, " + r + ", 5)", x -> x.bind(0, r, 5));
        missing("put(0, " + r + ", 5, 2)", x -> x.put(0, r, 5, 2));
        missing("put(0, 2, 5, " + r + ")", x -> x.put(0, 2, 5, r));
        missing("put(0, 2, 6, " + r + "), where 2 has no FREE 6", x -> x.put(0, 2, 6, r));
        missing("open(1, " + r + ", 2)", x -> x.open(1, r, 2));
        missing("open(1, 0, " + r + ")", x -> x.open(1, 0, r));
        missing("part(0, " + r + ", false)", x -> x.part(0, r, false));
        missing("part(0, " + r + ", true)", x -> x.part(0, r, true));
        missing("step(0, " + r + ")", x -> x.step(0, r));
        missing("head(0, " + r + ")", x -> x.head(0, r));
        missing("normal(0, " + r + ")", x -> x.normal(0, r));
    }

    private static void noSuchQuestion(int r) {
        missing("same(" + r + ", 0)", x -> x.same(r, 0));
        missing("same(0, " + r + ")", x -> x.same(0, r));
        missing("same(" + r + ", " + r + ")", x -> x.same(r, r));
        for (int what = 0; what < 5; what++) {
            int asked = what;
            missing("about(" + r + ", " + what + ")", x -> x.about(r, asked));
        }
        missing("has(" + r + ", 5)", x -> x.has(r, 5));
        missing("write(" + r + ")", x -> x.write(r));
    }

    private static void noSuchFree(int n) {
        missing("free(0, " + n + ")", x -> x.free(0, n));
        missing("bind(0, 1, " + n + ")", x -> x.bind(0, 1, n));
        missing("put(0, 1, " + n + ", 2)", x -> x.put(0, 1, n, 2));
        missing("has(0, " + n + ")", x -> x.has(0, n));
    }

    /** Where a call could be refused for two reasons: what there is not is so for all calls. */
    private static void noSuchComesFirst() {
        missing("open to no REGISTER of no FUNCTION", x -> x.open(16, 1, 2));
        missing("open of no FUNCTION with no REGISTER", x -> x.open(0, 1, 16));
        missing("part to no REGISTER of no (a b)", x -> x.part(16, 0, true));
        missing("about no REGISTER, another what", x -> x.about(16, 5));
        missing("apply to no REGISTER, beyond SIZE", x -> x.apply(16, 3, 3));
        missing("bind to no REGISTER, beyond DEPTH", x -> x.bind(16, 4, 5));
        missing("bind of no FREE, beyond SIZE", x -> x.bind(0, 3, 100));
        missing("put to no REGISTER, beyond SIZE", x -> x.put(16, 3, 5, 3));
        missing("open to no REGISTER, beyond SIZE", x -> x.open(16, 0, 3));
        Calls endless = BEFORE.and(x -> Terms.set(x, 5, "(.(' ') .(' '))"));
        CHECK.refused("head to no REGISTER, without an end", NoSuchElementException.class, endless, x -> x.head(16, 5));
        CHECK.refused("normal to no REGISTER, without an end", NoSuchElementException.class, endless,
            x -> x.normal(16, 5));
    }

    private static void openOfNoFunction() {
        unfit("open of (a b)", x -> x.open(5, 1, 2));
        unfit("open of (a b) onto itself", x -> x.open(1, 1, 2));
        unfit("open of FREE", x -> x.open(5, 2, 0));
        unfit("open of FREE onto itself, with itself", x -> x.open(2, 2, 2));
        unfit("open of what is new", x -> x.open(5, 15, 2));
        unfit("open of (a b) of the greatest SIZE with itself", x -> x.open(5, 3, 3));
        unfit("open of (a b) of the greatest DEPTH with itself", x -> x.open(5, 4, 4));
    }

    private static void partOfNone() {
        for (boolean second : new boolean[] {false, true}) {
            unfit("part of FUNCTION, " + second, x -> x.part(5, 0, second));
            unfit("part of FUNCTION onto itself, " + second, x -> x.part(0, 0, second));
            unfit("part of FREE, " + second, x -> x.part(5, 2, second));
            unfit("part of FREE onto itself, " + second, x -> x.part(2, 2, second));
        }
    }

    private static void aboutWhat() {
        for (int what : new int[] {-1, 5, 6, 256, LEAST, MOST}) {
            for (int a = 0; a < 5; a++) {
                int asked = a;
                unfit("about(" + a + ", " + what + ")", x -> x.about(asked, what));
            }
        }
    }

    private static void outOfNothing() {
        for (int i : new int[] {-1, 6, 7, 63, 64, LEAST, MOST}) {
            CHECK.refused("out(" + i + ") of (.' 6)", IndexOutOfBoundsException.class, BEFORE, x -> x.out(i));
        }
    }
}
