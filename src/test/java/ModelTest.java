import java.util.Random;
import java.util.TreeMap;

/** All promises: runs of calls by chance (the same ones each time), answered by the class and by the model. */
public final class ModelTest {
    private static final int CALLS = 512;
    private static final int BIND = 28;

    private final Check check;
    private final TreeMap<String, Integer> seen;
    private final int run;
    private final Random chance;
    private final BindingBench bench = new BindingBench();
    private final Model model = new Model();
    private final boolean deep;
    private final boolean great;
    private final int registers;
    private final int frees;
    private int length;

    private ModelTest(Check check, TreeMap<String, Integer> seen, int run) {
        this.check = check;
        this.seen = seen;
        this.run = run;
        chance = new Random(run);
        // Some runs bind so often that they come to the greatest DEPTH by FUNCTIONS alone.
        deep = run % 8 == 7;
        // Some begin with terms of which few more make one beyond.
        great = run % 4 == 1;
        registers = deep ? 2 : 3 + chance.nextInt(14);
        frees = 1 + chance.nextInt(6);
    }

    public static void main(String[] args) {
        Check check = new Check();
        TreeMap<String, Integer> seen = new TreeMap<>();
        int runs = args.length > 0 ? Integer.parseInt(args[0]) : 400;
        for (int run = 0; run < runs; run++) {
            ModelTest test = new ModelTest(check, seen, run);
            int before = test.great ? test.makeGreat() : 0;
            for (int i = before; i < CALLS; i++) {
                test.call();
            }
        }
        if (args.length > 0) {
            System.out.println(seen);
        }
        // A run by chance tells nothing of an answer that it never came to.
        String[] due = {"apply IllegalStateException", "bind IllegalStateException", "put IllegalStateException",
            "open IllegalStateException", "open IllegalArgumentException", "part IllegalArgumentException",
            "step IllegalStateException", "head IllegalStateException", "head ArithmeticException",
            "normal IllegalStateException", "normal ArithmeticException", "about IllegalArgumentException",
            "out IndexOutOfBoundsException", "has NoSuchElementException", "same NoSuchElementException"};
        for (String name : due) {
            if (!seen.containsKey(name)) {
                check.report("no run came to " + name);
            }
        }
        check.end();
    }

    private int register() {
        return chance.nextInt(300) == 0 ? (chance.nextBoolean() ? 16 : -1) : chance.nextInt(registers);
    }

    private int free() {
        int kind = chance.nextInt(300);
        if (kind == 0) {
            return chance.nextBoolean() ? 100 : -1 - chance.nextInt(2);
        }
        return kind < 10 ? chance.nextInt(100) : chance.nextInt(frees);
    }

    private void compare(String name, Shown.Call got, Shown.Call due) {
        String answer = Shown.answer(got);
        String dueAnswer = Shown.answer(due);
        String kind = dueAnswer.startsWith("java") ? dueAnswer.substring(dueAnswer.lastIndexOf('.') + 1) : "answered";
        seen.merge(name.substring(0, name.indexOf('(')) + " " + kind, 1, Integer::sum);
        check.equal("run " + run + ": " + name, answer, dueAnswer);
    }

    /** REGISTERS 0 and 1 with SIZE 1,023 and with DEPTH 121 to 150: how many calls. */
    private int makeGreat() {
        int doublings = 9;
        int functions = 120 + chance.nextInt(30);
        for (int i = 0; i < doublings; i++) {
            apply(0, 0, 0);
        }
        for (int i = 0; i < functions; i++) {
            bind(1, 1, 1);
        }
        return doublings + functions;
    }

    private static int number(boolean answer) {
        return answer ? 1 : 0;
    }

    private void call() {
        int kind = deep && chance.nextInt(12) > 0 ? BIND : chance.nextInt(100);
        if (kind < 60) {
            build(kind);
        } else if (kind < 75) {
            reduce(kind);
        } else {
            ask(kind);
        }
    }

    private void build(int kind) {
        int to = register();
        int a = register();
        int b = register();
        int n = free();
        boolean second = chance.nextBoolean();
        if (kind < 10) {
            compare("free(" + to + ", " + n + ")", () -> {
                bench.free(to, n);
                return 0;
            }, () -> model.free(to, n));
        } else if (kind < BIND) {
            apply(to, a, b);
        } else if (kind < 44) {
            bind(to, a, n);
        } else if (kind < 49) {
            compare("put(" + to + ", " + a + ", " + n + ", " + b + ")",
                () -> bench.put(to, a, n, b), () -> model.put(to, a, n, b));
        } else if (kind < 55) {
            compare("open(" + to + ", " + a + ", " + b + ")", () -> bench.open(to, a, b), () -> model.open(to, a, b));
        } else {
            compare("part(" + to + ", " + a + ", " + second + ")", () -> {
                bench.part(to, a, second);
                return 0;
            }, () -> model.part(to, a, second));
        }
    }

    private void apply(int to, int a, int b) {
        compare("apply(" + to + ", " + a + ", " + b + ")", () -> bench.apply(to, a, b), () -> model.apply(to, a, b));
    }

    private void bind(int to, int a, int n) {
        compare("bind(" + to + ", " + a + ", " + n + ")", () -> bench.bind(to, a, n), () -> model.bind(to, a, n));
    }

    private void reduce(int kind) {
        int to = register();
        int a = register();
        String arguments = "(" + to + ", " + a + ")";
        if (kind < 67) {
            compare("step" + arguments, () -> number(bench.step(to, a)), () -> model.step(to, a));
        } else if (kind < 71) {
            compare("head" + arguments, () -> bench.head(to, a), () -> model.reduce(to, a, true));
        } else {
            compare("normal" + arguments, () -> bench.normal(to, a), () -> model.reduce(to, a, false));
        }
    }

    private void ask(int kind) {
        int a = register();
        int b = register();
        int n = free();
        int what = chance.nextInt(50) == 0 ? chance.nextInt() : chance.nextInt(5);
        if (kind < 78) {
            compare("same(" + a + ", " + b + ")", () -> number(bench.same(a, b)), () -> model.same(a, b));
        } else if (kind < 84) {
            compare("about(" + a + ", " + what + ")", () -> bench.about(a, what), () -> model.about(a, what));
        } else if (kind < 87) {
            compare("has(" + a + ", " + n + ")", () -> bench.has(a, n), () -> model.has(a, n));
        } else if (kind < 92) {
            compare("write(" + a + ")", () -> bench.write(a), () -> model.write(a));
            length = a >= 0 && a < 16 ? model.write(a) : length;
        } else {
            int i = chance.nextInt(length + 2) - 1;
            compare("out(" + i + ")", () -> bench.out(i), () -> model.out(i));
        }
    }
}
