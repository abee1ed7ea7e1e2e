/** Turns WRITTEN texts into terms of a bench and back, and makes some great terms. */
final class Terms {
    /** REGISTERS from here on are used while a term is made. */
    private static final int WORK = 10;
    /** A FREE that no text of a test has. */
    private static final int UNUSED = 70;
    /** A FREE in whose place something is put while a term is made. */
    private static final int HOLE = 69;

    private final BindingBench bench;
    private final String written;
    private int at;

    private Terms(BindingBench bench, String written) {
        this.bench = bench;
        this.written = written;
    }

    /** A new bench with these in REGISTERS 0, 1, 2 .. (at most ten). */
    static BindingBench bench(String... written) {
        BindingBench bench = new BindingBench();
        for (int i = 0; i < written.length; i++) {
            set(bench, i, written[i]);
        }
        return bench;
    }

    /** Makes a REGISTER below 10 the term of a WRITTEN text without FREE 71 .. 99. */
    static void set(BindingBench bench, int to, String written) {
        Terms terms = new Terms(bench, written);
        terms.read(WORK, 0);
        if (terms.at != written.length()) {
            throw new IllegalArgumentException(written);
        }
        copy(bench, to, WORK);
    }

    static void copy(BindingBench bench, int to, int a) {
        bench.put(to, a, UNUSED, a);
    }

    /** FREE 99, 98 .. stand for VARIABLES until they are bound. */
    private void read(int to, int functions) {
        char mark = written.charAt(at);
        if (mark == '(') {
            at++;
            read(to, functions);
            expect(' ');
            read(to + 1, functions);
            expect(')');
            bench.apply(to, to, to + 1);
        } else if (mark == '.') {
            at++;
            read(to, functions + 1);
            bench.bind(to, to, 99 - functions);
        } else if (mark == '\'') {
            bench.free(to, 99 - (functions - skip('\'', '\'')));
        } else {
            int start = at;
            skip('0', '9');
            bench.free(to, Integer.parseInt(written.substring(start, at)));
        }
    }

    private int skip(char least, char most) {
        int start = at;
        while (at < written.length() && written.charAt(at) >= least && written.charAt(at) <= most) {
            at++;
        }
        return at - start;
    }

    private void expect(char mark) {
        if (written.charAt(at) != mark) {
            throw new IllegalArgumentException(written + " at " + at);
        }
        at++;
    }

    static String text(BindingBench bench, int a) {
        int length = bench.write(a);
        StringBuilder text = new StringBuilder();
        for (int i = 0; i < length; i++) {
            text.append((char) bench.out(i));
        }
        return text.toString();
    }

    /** A unit with the next one in place of its FREE HOLE, so many times, and the innermost text in the last. */
    static void nested(BindingBench bench, int to, String unit, int times, String innermost) {
        set(bench, 9, unit);
        bench.free(to, HOLE);
        for (int bit = Integer.highestOneBit(times); bit > 0; bit >>= 1) {
            bench.put(to, to, HOLE, to);
            if ((times & bit) != 0) {
                bench.put(to, to, HOLE, 9);
            }
        }
        set(bench, 9, innermost);
        bench.put(to, to, HOLE, 9);
    }

    /** (.. ((n n) n) .. n), of SIZE 2 depth - 1 and the DEPTH that is asked for. */
    static void chain(BindingBench bench, int to, int n, int depth) {
        nested(bench, to, "(" + HOLE + " " + n + ")", depth - 1, Integer.toString(n));
    }

    /** (.' (.' .. .')) with so many STEPS, all of the HEAD, up to .'; of SIZE 3 steps + 2. */
    static void unwrapped(BindingBench bench, int to, int steps) {
        nested(bench, to, "(.' " + HOLE + ")", steps, ".'");
    }

    /** As unwrapped, for more STEPS (201 .. 340) than the greatest DEPTH lets one have; of SIZE 3 steps + 2. */
    static void longHead(BindingBench bench, int to, int steps) {
        // ((a b) c): those of a, one for (.' b), those of b, one for (.' c), those of c.
        unwrapped(bench, 8, 99);
        bench.apply(8, 8, 8);
        unwrapped(bench, to, steps - 200);
        bench.apply(to, 8, to);
    }

    /** (a b) of (a b) .. with a unit at just so many places, of a small DEPTH. */
    static void copies(BindingBench bench, int to, String unit, int places) {
        set(bench, 9, unit);
        boolean empty = true;
        for (int left = places; left > 0; left >>= 1) {
            if (left % 2 != 0 && empty) {
                copy(bench, to, 9);
                empty = false;
            } else if (left % 2 != 0) {
                bench.apply(to, to, 9);
            }
            if (left > 1) {
                bench.apply(9, 9, 9);
            }
        }
    }

    /** A term of just this SIZE (not 2) and a DEPTH below 30, that has no STEP and makes none where it is put. */
    static void sized(BindingBench bench, int to, int n, int size) {
        if (size == 1) {
            bench.free(to, n);
        } else if (size % 2 == 0) {
            // (n .t)
            sized(bench, to, n, size - 3);
            bench.bind(to, to, UNUSED);
            bench.free(WORK, n);
            bench.apply(to, WORK, to);
        } else if (size % 4 == 3) {
            // (t t)
            sized(bench, to, n, (size - 1) / 2);
            bench.apply(to, to, to);
        } else {
            // ((n t) t)
            sized(bench, to, n, (size - 3) / 2);
            bench.free(WORK, n);
            bench.apply(WORK, WORK, to);
            bench.apply(to, WORK, to);
        }
    }

    /** A term of DEPTH 150 that is WRITTEN with 140 marks at 512 places. */
    static void longText(BindingBench bench, int to) {
        nested(bench, 8, ".69", 139, "1");
        copies(bench, to, "1", 512);
        bench.put(to, 8, 1, to);
        bench.bind(to, to, 1);
    }
}
