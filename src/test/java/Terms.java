/** Turns WRITTEN texts into terms of a bench and back, and makes some great terms. */
final class Terms {
    /** REGISTERS from here on are used while a term is made. */
    private static final int WORK = 10;
    /** A FREE that no text of a test has. */
    private static final int UNUSED = 70;

    private final BindingBench bench;
    private final String written;
    private int at;

    private Terms(BindingBench bench, String written) {
        this.bench = bench;
        this.written = written;
    }

    /** A new bench with these in REGISTERS 0, 1, 2 .. (at most ten). */
    static BindingBench bench(String... written) {
        BindingBench bench = new BindingBench();
        for (int i = 0; i < written.length; i++) {
            set(bench, i, written[i]);
        }
        return bench;
    }

    /** Makes a REGISTER below 10 the term of a WRITTEN text without FREE 71 .. 99. */
    static void set(BindingBench bench, int to, String written) {
        Terms terms = new Terms(bench, written);
        terms.read(WORK, 0);
        if (terms.at != written.length()) {
            throw new IllegalArgumentException(written);
        }
        copy(bench, to, WORK);
    }

    static void copy(BindingBench bench, int to, int a) {
        bench.put(to, a, UNUSED, a);
    }

    /** FREE 99, 98 .. stand for VARIABLES until they are bound. */
    private void read(int to, int functions) {
        char mark = written.charAt(at);
        if (mark == '(') {
            at++;
            read(to, functions);
            expect(' ');
            read(to + 1, functions);
            expect(')');
            bench.apply(to, to, to + 1);
        } else if (mark == '.') {
            at++;
            read(to, functions + 1);
            bench.bind(to, to, 99 - functions);
        } else if (mark == '\'') {
            bench.free(to, 99 - (functions - skip('\'', '\'')));
        } else {
            int start = at;
            skip('0', '9');
            bench.free(to, Integer.parseInt(written.substring(start, at)));
        }
    }

    private int skip(char least, char most) {
        int start = at;
        while (at < written.length() && written.charAt(at) >= least && written.charAt(at) <= most) {
            at++;
        }
        return at - start;
    }

    private void expect(char mark) {
        if (written.charAt(at) != mark) {
            throw new IllegalArgumentException(written + " at " + at);
        }
        at++;
    }

    static String text(BindingBench bench, int a) {
        int length = bench.write(a);
        StringBuilder text = new StringBuilder();
        for (int i = 0; i < length; i++) {
            text.append((char) bench.out(i));
        }
        return text.toString();
    }

    /** (.. ((n n) n) .. n), of SIZE 2 depth - 1 and the DEPTH that is asked for. */
    static void chain(BindingBench bench, int to, int n, int depth) {
        bench.free(to, n);
        bench.free(WORK, n);
        for (int i = 1; i < depth; i++) {
            bench.apply(to, to, WORK);
        }
    }

    /** A term of DEPTH doublings and SIZE 2 ^ doublings - 1, of FREE n alone. */
    static void tree(BindingBench bench, int to, int n, int doublings) {
        bench.free(to, n);
        for (int i = 1; i < doublings; i++) {
            bench.apply(to, to, to);
        }
    }

    /** A term of SIZE 1,999 with 1,000 places of FREE n and no FUNCTION. */
    static void greatest(BindingBench bench, int to, int n) {
        // 1,000 = 512 + 256 + 128 + 64 + 32 + 8.
        int[] doublings = {10, 9, 8, 7, 6, 4};
        tree(bench, to, n, doublings[0]);
        for (int i = 1; i < doublings.length; i++) {
            tree(bench, WORK, n, doublings[i]);
            bench.apply(to, to, WORK);
        }
    }

    /** A term of just this SIZE and a DEPTH below 30, without a STEP. */
    static void sized(BindingBench bench, int to, int n, int size) {
        if (size == 1) {
            bench.free(to, n);
        } else if (size % 2 == 0) {
            sized(bench, to, n, size - 1);
            bench.bind(to, to, UNUSED);
        } else if (size == 3) {
            bench.free(to, n);
            bench.apply(to, to, to);
        } else {
            // ((n t) t): no FUNCTION is a first part.
            sized(bench, to, n, (size - 3) / 2);
            bench.free(WORK, n);
            bench.apply(WORK, WORK, to);
            bench.apply(to, WORK, to);
        }
    }

    /** ..('' ('' .. ('' '))) with n times ''. */
    static void numeral(BindingBench bench, int to, int n) {
        bench.free(to, 0);
        bench.free(WORK, 1);
        for (int i = 0; i < n; i++) {
            bench.apply(to, WORK, to);
        }
        bench.bind(to, to, 0);
        bench.bind(to, to, 1);
    }

    /** A term with (.' 5) at 300 places, of SIZE 1,499. */
    static void manyRedexes(BindingBench bench, int to) {
        // 300 = 256 + 32 + 8 + 4.
        int[] doublings = {8, 5, 3, 2};
        for (int i = 0; i < doublings.length; i++) {
            set(bench, 9, "(.' 5)");
            for (int j = 0; j < doublings[i]; j++) {
                bench.apply(9, 9, 9);
            }
            if (i == 0) {
                copy(bench, to, 9);
            } else {
                bench.apply(to, to, 9);
            }
        }
    }
}
