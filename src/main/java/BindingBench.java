import java.util.Arrays;
import java.util.NoSuchElementException;

/**
 * Sixteen REGISTERS with terms of functions, and the calls that build, bind, reduce and show them.
 *
 * <p>A term is held as a row of cells in the order in which it is WRITTEN, without names: a VARIABLE
 * is the number of FUNCTIONS up to its own. So names cannot clash, two terms are the same if their
 * rows are, and a SIZE is the length of a row.
 */
public final class BindingBench {
    private static final int REGISTERS = 16;
    private static final int MOST_SIZE = 2000;
    private static final int MOST_DEPTH = 150;
    private static final int MOST_STEPS = 300;

    /** FREE n is the cell n; the VARIABLE that is WRITTEN with k marks is the cell LAST_FREE + k. */
    private static final int LAST_FREE = 99;
    private static final int APPLIED = -1;
    private static final int FUNCTION = -2;

    private static final int NOWHERE = -1;

    private final Term[] registers;
    private final Workshop workshop;
    private final Text text;

    public BindingBench() {
        registers = new Term[REGISTERS];
        for (int i = 0; i < REGISTERS; i++) {
            registers[i] = new Term(8);
        }
        workshop = new Workshop();
        text = new Text();
    }

    public void free(int to, int n) throws NoSuchElementException {
        Term target = register(to);
        checkFree(n);
        target.becomeFree(n);
    }

    public int apply(int to, int a, int b) throws NoSuchElementException, IllegalStateException {
        Term target = register(to);
        return target.become(workshop.join(register(a), register(b)));
    }

    public int bind(int to, int a, int n) throws NoSuchElementException, IllegalStateException {
        Term target = register(to);
        Term inside = register(a);
        checkFree(n);
        return target.become(workshop.close(inside, n));
    }

    public int put(int to, int a, int n, int b) throws NoSuchElementException, IllegalStateException {
        Term target = register(to);
        Term around = register(a);
        checkFree(n);
        return target.become(workshop.replace(around, n, register(b)));
    }

    public int open(int to, int a, int b)
            throws NoSuchElementException, IllegalArgumentException, IllegalStateException {
        Term target = register(to);
        Term function = register(a);
        Term given = register(b);
        if (function.first() != FUNCTION) {
            throw new IllegalArgumentException("no FUNCTION");
        }
        return target.become(workshop.fill(function, given));
    }

    public void part(int to, int a, boolean second) throws NoSuchElementException, IllegalArgumentException {
        Term target = register(to);
        Term whole = register(a);
        if (whole.first() != APPLIED) {
            throw new IllegalArgumentException("no (a b)");
        }
        target.become(workshop.cut(whole, second));
    }

    public boolean step(int to, int a) throws NoSuchElementException, IllegalStateException {
        Term target = register(to);
        Term before = register(a);
        int at = before.firstRedex(0);
        if (at == NOWHERE) {
            target.become(before);
            return false;
        }
        target.become(workshop.contract(before, at));
        return true;
    }

    public int head(int to, int a) throws NoSuchElementException, IllegalStateException, ArithmeticException {
        Term target = register(to);
        int steps = workshop.reduce(register(a), true);
        target.become(workshop.reduced());
        return steps;
    }

    public int normal(int to, int a) throws NoSuchElementException, IllegalStateException, ArithmeticException {
        Term target = register(to);
        int steps = workshop.reduce(register(a), false);
        target.become(workshop.reduced());
        return steps;
    }

    public boolean same(int a, int b) throws NoSuchElementException {
        return register(a).equalTo(register(b));
    }

    public int about(int a, int what) throws NoSuchElementException, IllegalArgumentException {
        Term term = register(a);
        switch (what) {
            case 0:
                return term.size;
            case 1:
                return workshop.depth(term);
            case 2:
                return term.kind();
            case 3:
                return term.differentFree();
            case 4:
                return term.redexes();
            default:
                throw new IllegalArgumentException("another what");
        }
    }

    public int has(int a, int n) throws NoSuchElementException {
        Term term = register(a);
        checkFree(n);
        return term.places(n);
    }

    public int write(int a) throws NoSuchElementException {
        return text.show(register(a));
    }

    public int out(int i) throws IndexOutOfBoundsException {
        if (i < 0 || i >= text.length) {
            throw new IndexOutOfBoundsException("no such byte of OUT");
        }
        return text.bytes[i];
    }

    private Term register(int i) {
        if (i < 0 || i >= REGISTERS) {
            throw new NoSuchElementException("no such REGISTER");
        }
        return registers[i];
    }

    private static void checkFree(int n) {
        if (n < 0 || n > LAST_FREE) {
            throw new NoSuchElementException("no such FREE");
        }
    }

    /** The row of one term; its cells beyond its size mean nothing. */
    private static final class Term {
        private int[] cells;
        private int size;

        /** FREE 0. */
        Term(int room) {
            cells = new int[room];
            size = 1;
        }

        int first() {
            return cells[0];
        }

        void becomeFree(int n) {
            cells[0] = n;
            size = 1;
        }

        int become(Term other) {
            reserve(other.size);
            System.arraycopy(other.cells, 0, cells, 0, other.size);
            size = other.size;
            return size;
        }

        /** Doubles, so that a row that grows cell by cell is seldom made anew. */
        private void reserve(int room) {
            if (room > cells.length) {
                cells = new int[Math.min(MOST_SIZE, Math.max(room, 2 * cells.length))];
            }
        }

        void clear() {
            size = 0;
        }

        /** What the row has no room for is only counted: the size then tells that it is too much. */
        void add(int cell) {
            if (size < cells.length) {
                cells[size] = cell;
            }
            size++;
        }

        /** As add, for the cells of another from start up to end. */
        void addAll(Term other, int start, int end) {
            if (takes(end - start)) {
                System.arraycopy(other.cells, start, cells, size, end - start);
            }
            size += end - start;
        }

        boolean takes(int more) {
            return more <= cells.length - size;
        }

        /** The place behind the part that begins at start. */
        int endOf(int start) {
            int due = 1;
            int i = start;
            while (i < size && due > 0) {
                if (cells[i] == APPLIED) {
                    due++;
                } else if (cells[i] != FUNCTION) {
                    due--;
                }
                i++;
            }
            return i;
        }

        private boolean isRedex(int at) {
            return cells[at] == APPLIED && cells[at + 1] == FUNCTION;
        }

        /** Each part stands behind what it is a part of, so the first one found is an outermost one. */
        int firstRedex(int from) {
            for (int i = from; i < size - 1; i++) {
                if (isRedex(i)) {
                    return i;
                }
            }
            return NOWHERE;
        }

        /** The one that is the term itself, or its a, or the a of that, and so on. */
        int headRedex() {
            for (int i = 0; i < size - 1 && cells[i] == APPLIED; i++) {
                if (isRedex(i)) {
                    return i;
                }
            }
            return NOWHERE;
        }

        int redexes() {
            int count = 0;
            for (int i = 0; i < size - 1; i++) {
                if (isRedex(i)) {
                    count++;
                }
            }
            return count;
        }

        int kind() {
            if (cells[0] == APPLIED) {
                return 1;
            }
            return cells[0] == FUNCTION ? 2 : 0;
        }

        int places(int n) {
            int count = 0;
            for (int i = 0; i < size; i++) {
                if (cells[i] == n) {
                    count++;
                }
            }
            return count;
        }

        int differentFree() {
            long below64 = 0;
            long above = 0;
            for (int i = 0; i < size; i++) {
                int cell = cells[i];
                if (cell >= 0 && cell < 64) {
                    below64 |= 1L << cell;
                } else if (cell >= 64 && cell <= LAST_FREE) {
                    above |= 1L << (cell - 64);
                }
            }
            return Long.bitCount(below64) + Long.bitCount(above);
        }

        boolean equalTo(Term other) {
            if (size != other.size) {
                return false;
            }
            for (int i = 0; i < size; i++) {
                if (cells[i] != other.cells[i]) {
                    return false;
                }
            }
            return true;
        }
    }

    /**
     * Tells, while a row is gone through cell by cell, how many (a b) or FUNCTIONS stand around the
     * cell that is next. For the second part of an (a b) the count waits until the first has ended.
     */
    private static final class Walk {
        private final int forApplied;
        private final int forFunction;
        private final int[] waiting;
        private int height;
        private int count;

        Walk(int forApplied, int forFunction) {
            this.forApplied = forApplied;
            this.forFunction = forFunction;
            waiting = new int[MOST_DEPTH];
        }

        void start() {
            height = 0;
            count = 0;
        }

        void pass(int cell) {
            if (cell == APPLIED) {
                count += forApplied;
                if (height < waiting.length) {
                    waiting[height] = count;
                    height++;
                }
            } else if (cell == FUNCTION) {
                count += forFunction;
            } else if (height > 0) {
                height--;
                count = waiting[height];
            } else {
                count = 0;
            }
        }
    }

    /** Makes terms out of terms in rows of its own, so that a call that fails has changed no REGISTER. */
    private static final class Workshop {
        private Term made;
        private Term spare;
        private final Walk levels;
        private final Walk binders;
        private final Walk innerBinders;

        Workshop() {
            made = new Term(MOST_SIZE);
            spare = new Term(MOST_SIZE);
            levels = new Walk(1, 1);
            binders = new Walk(0, 1);
            innerBinders = new Walk(0, 1);
        }

        Term join(Term a, Term b) {
            made.clear();
            made.add(APPLIED);
            made.addAll(a, 0, a.size);
            made.addAll(b, 0, b.size);
            return checked();
        }

        /** FUNCTION v . a, with v for FREE n. */
        Term close(Term a, int n) {
            made.clear();
            made.add(FUNCTION);
            binders.start();
            for (int i = 0; i < a.size; i++) {
                int cell = a.cells[i];
                made.add(cell == n ? LAST_FREE + 1 + binders.count : cell);
                binders.pass(cell);
            }
            return checked();
        }

        /** No VARIABLE of b has its FUNCTION outside b, so b goes in as it is. */
        Term replace(Term a, int n, Term b) {
            made.clear();
            for (int i = 0; i < a.size; i++) {
                if (a.cells[i] == n) {
                    made.addAll(b, 0, b.size);
                } else {
                    made.add(a.cells[i]);
                }
            }
            return checked();
        }

        /** The inside of a function, with b PUT for its VARIABLE. */
        Term fill(Term function, Term b) {
            made.clear();
            addFilled(function, 1, function.size, b, 0, b.size);
            return checked();
        }

        Term cut(Term whole, boolean second) {
            int middle = whole.endOf(1);
            made.clear();
            if (second) {
                made.addAll(whole, middle, whole.size);
            } else {
                made.addAll(whole, 1, middle);
            }
            return made;
        }

        /** One STEP at a place where there is one. */
        Term contract(Term term, int at) {
            int middle = term.endOf(at + 1);
            int end = term.endOf(middle);
            made.clear();
            made.addAll(term, 0, at);
            addFilled(term, at + 2, middle, term, middle, end);
            made.addAll(term, end, term.size);
            return checked();
        }

        /** Does all STEPS, or those of the HEAD: how many; reduced() then has the term. */
        int reduce(Term term, boolean headOnly) {
            spare.become(term);
            int from = 0;
            for (int steps = 0; steps <= MOST_STEPS; steps++) {
                int at = headOnly ? spare.headRedex() : spare.firstRedex(from);
                if (at == NOWHERE) {
                    return steps;
                }
                Term next = contract(spare, at);
                made = spare;
                spare = next;
                // A STEP changes nothing before its place: only what stands just there may be new.
                from = Math.max(0, at - 1);
            }
            throw new ArithmeticException("too many STEPS");
        }

        Term reduced() {
            return spare;
        }

        /** Adds the inside of a function, which stands from start up to end, with the part of b for its VARIABLE. */
        private void addFilled(Term inside, int start, int end, Term b, int bStart, int bEnd) {
            binders.start();
            for (int i = start; i < end; i++) {
                int cell = inside.cells[i];
                int own = LAST_FREE + 1 + binders.count;
                if (cell == own) {
                    addRaised(b, bStart, bEnd, binders.count);
                } else {
                    // One FUNCTION fewer stands between a VARIABLE from farther out and its own.
                    made.add(cell > own ? cell - 1 : cell);
                }
                binders.pass(cell);
            }
        }

        /** Adds a part of b below some FUNCTIONS more than stood around it. */
        private void addRaised(Term b, int start, int end, int more) {
            if (more == 0 || !made.takes(end - start)) {
                made.addAll(b, start, end);
                return;
            }
            innerBinders.start();
            for (int i = start; i < end; i++) {
                int cell = b.cells[i];
                made.add(cell > LAST_FREE + innerBinders.count ? cell + more : cell);
                innerBinders.pass(cell);
            }
        }

        private Term checked() {
            if (made.size > MOST_SIZE || isTooDeep(made)) {
                throw new IllegalStateException("beyond the greatest SIZE or DEPTH");
            }
            return made;
        }

        private boolean isTooDeep(Term term) {
            return term.size > MOST_DEPTH && depth(term) > MOST_DEPTH;
        }

        /** The DEPTH; of a term that is too deep just a number that is too great. */
        int depth(Term term) {
            int deepest = 0;
            levels.start();
            for (int i = 0; i < term.size && deepest < MOST_DEPTH; i++) {
                deepest = Math.max(deepest, levels.count);
                levels.pass(term.cells[i]);
            }
            return deepest + 1;
        }
    }

    /** OUT. */
    private static final class Text {
        private byte[] bytes;
        private int length;
        private final Walk brackets;

        Text() {
            bytes = new byte[64];
            length = 0;
            brackets = new Walk(1, 0);
        }

        int show(Term term) {
            length = 0;
            brackets.start();
            for (int i = 0; i < term.size; i++) {
                int cell = term.cells[i];
                int before = brackets.count;
                brackets.pass(cell);
                if (cell == APPLIED) {
                    add('(', 1);
                } else if (cell == FUNCTION) {
                    add('.', 1);
                } else {
                    addLeaf(cell);
                    add(')', before - brackets.count);
                    add(' ', i + 1 < term.size ? 1 : 0);
                }
            }
            return length;
        }

        private void addLeaf(int cell) {
            if (cell > LAST_FREE) {
                add('\'', cell - LAST_FREE);
                return;
            }
            if (cell >= 10) {
                add((char) ('0' + cell / 10), 1);
            }
            add((char) ('0' + cell % 10), 1);
        }

        private void add(char mark, int times) {
            if (times > bytes.length - length) {
                bytes = Arrays.copyOf(bytes, 2 * bytes.length + times);
            }
            for (int i = 0; i < times; i++) {
                bytes[length] = (byte) mark;
                length++;
            }
        }
    }
}
