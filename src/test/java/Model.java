import java.util.ArrayList;
import java.util.List;
import java.util.NoSuchElementException;
import java.util.Set;
import java.util.TreeSet;

/**
 * The document once more, in another way: trees whose VARIABLES have names, which are changed where
 * they would clash. Calls answer as BindingBench does, a boolean as 1 or 0 and nothing as 0.
 */
final class Model {
    private static final int FREE = 0;
    private static final int VARIABLE = 1;
    private static final int APPLIED = 2;
    private static final int FUNCTION = 3;

    /** FREE number; VARIABLE number; (first second); FUNCTION number . first. */
    private static final class Node {
        final int kind;
        final int number;
        final Node first;
        final Node second;
        final int size;
        final int depth;
        final Set<Integer> loose = new TreeSet<>();

        Node(int kind, int number, Node first, Node second) {
            this.kind = kind;
            this.number = number;
            this.first = first;
            this.second = second;
            size = 1 + (first == null ? 0 : first.size) + (second == null ? 0 : second.size);
            depth = 1 + Math.max(first == null ? 0 : first.depth, second == null ? 0 : second.depth);
            if (kind == VARIABLE) {
                loose.add(number);
            }
            if (first != null) {
                loose.addAll(first.loose);
            }
            if (second != null) {
                loose.addAll(second.loose);
            }
            if (kind == FUNCTION) {
                loose.remove(number);
            }
        }
    }

    private final Node[] registers = new Node[16];
    private String out = "";
    private int names;

    Model() {
        for (int i = 0; i < 16; i++) {
            registers[i] = new Node(FREE, 0, null, null);
        }
    }

    private Node register(int i) {
        if (i < 0 || i > 15) {
            throw new NoSuchElementException();
        }
        return registers[i];
    }

    private static void checkFree(int n) {
        if (n < 0 || n > 99) {
            throw new NoSuchElementException();
        }
    }

    private static Node checked(Node node) {
        if (node.size > 2000 || node.depth > 150) {
            throw new IllegalStateException();
        }
        return node;
    }

    private int keep(int to, Node node) {
        registers[to] = checked(node);
        return node.size;
    }

    /** b for the FREE or VARIABLE of this kind and number. */
    private Node substitute(Node a, int kind, int number, Node b) {
        switch (a.kind) {
            case APPLIED:
                return new Node(APPLIED, 0, substitute(a.first, kind, number, b), substitute(a.second, kind, number, b));
            case FUNCTION:
                if (kind == VARIABLE && a.number == number) {
                    return a;
                }
                if (!b.loose.contains(a.number)) {
                    return new Node(FUNCTION, a.number, substitute(a.first, kind, number, b), null);
                }
                names++;
                int fresh = names;
                Node renamed = substitute(a.first, VARIABLE, a.number, new Node(VARIABLE, fresh, null, null));
                return new Node(FUNCTION, fresh, substitute(renamed, kind, number, b), null);
            default:
                return a.kind == kind && a.number == number ? b : a;
        }
    }

    private static boolean isRedex(Node node) {
        return node.kind == APPLIED && node.first.kind == FUNCTION;
    }

    private Node contracted(Node redex) {
        return substitute(redex.first.first, VARIABLE, redex.first.number, redex.second);
    }

    /** Behind one STEP, or null if there is none. */
    private Node stepped(Node node, boolean headOnly) {
        if (isRedex(node)) {
            return contracted(node);
        }
        if (node.kind == FUNCTION && !headOnly) {
            Node inside = stepped(node.first, false);
            return inside == null ? null : new Node(FUNCTION, node.number, inside, null);
        }
        if (node.kind != APPLIED) {
            return null;
        }
        Node first = stepped(node.first, headOnly);
        if (first != null) {
            return new Node(APPLIED, 0, first, node.second);
        }
        Node second = headOnly ? null : stepped(node.second, false);
        return second == null ? null : new Node(APPLIED, 0, node.first, second);
    }

    private static void written(Node node, List<Integer> functions, StringBuilder text) {
        switch (node.kind) {
            case FREE:
                text.append(node.number);
                break;
            case VARIABLE:
                for (int i = functions.size() - 1; i >= functions.lastIndexOf(node.number); i--) {
                    text.append('\'');
                }
                break;
            case APPLIED:
                text.append('(');
                written(node.first, functions, text);
                text.append(' ');
                written(node.second, functions, text);
                text.append(')');
                break;
            default:
                text.append('.');
                functions.add(node.number);
                written(node.first, functions, text);
                functions.remove(functions.size() - 1);
        }
    }

    private static String written(Node node) {
        StringBuilder text = new StringBuilder();
        written(node, new ArrayList<>(), text);
        return text.toString();
    }

    private static int places(Node node, int n) {
        if (node == null) {
            return 0;
        }
        return (node.kind == FREE && node.number == n ? 1 : 0) + places(node.first, n) + places(node.second, n);
    }

    private static int redexes(Node node) {
        if (node == null) {
            return 0;
        }
        return (isRedex(node) ? 1 : 0) + redexes(node.first) + redexes(node.second);
    }

    int free(int to, int n) {
        register(to);
        checkFree(n);
        registers[to] = new Node(FREE, n, null, null);
        return 0;
    }

    int apply(int to, int a, int b) {
        register(to);
        return keep(to, new Node(APPLIED, 0, register(a), register(b)));
    }

    int bind(int to, int a, int n) {
        register(to);
        register(a);
        checkFree(n);
        names++;
        int name = names;
        return keep(to, new Node(FUNCTION, name, substitute(register(a), FREE, n, new Node(VARIABLE, name, null, null)), null));
    }

    int put(int to, int a, int n, int b) {
        register(to);
        register(a);
        register(b);
        checkFree(n);
        return keep(to, substitute(register(a), FREE, n, register(b)));
    }

    int open(int to, int a, int b) {
        register(to);
        Node function = register(a);
        register(b);
        if (function.kind != FUNCTION) {
            throw new IllegalArgumentException();
        }
        return keep(to, substitute(function.first, VARIABLE, function.number, register(b)));
    }

    int part(int to, int a, boolean second) {
        register(to);
        Node whole = register(a);
        if (whole.kind != APPLIED) {
            throw new IllegalArgumentException();
        }
        registers[to] = second ? whole.second : whole.first;
        return 0;
    }

    int step(int to, int a) {
        register(to);
        Node after = stepped(register(a), false);
        keep(to, after == null ? register(a) : after);
        return after == null ? 0 : 1;
    }

    int reduce(int to, int a, boolean headOnly) {
        register(to);
        Node node = register(a);
        int steps = 0;
        Node next = stepped(node, headOnly);
        while (next != null) {
            node = checked(next);
            steps++;
            if (steps == 301) {
                throw new ArithmeticException();
            }
            next = stepped(node, headOnly);
        }
        registers[to] = node;
        return steps;
    }

    int same(int a, int b) {
        return written(register(a)).equals(written(register(b))) ? 1 : 0;
    }

    int about(int a, int what) {
        Node node = register(a);
        switch (what) {
            case 0:
                return node.size;
            case 1:
                return node.depth;
            case 2:
                return node.kind == FREE ? 0 : node.kind - 1;
            case 3:
                int different = 0;
                for (int n = 0; n < 100; n++) {
                    different += places(node, n) > 0 ? 1 : 0;
                }
                return different;
            case 4:
                return redexes(node);
            default:
                throw new IllegalArgumentException();
        }
    }

    int has(int a, int n) {
        register(a);
        checkFree(n);
        return places(register(a), n);
    }

    int write(int a) {
        out = written(register(a));
        return out.length();
    }

    int out(int i) {
        if (i < 0 || i >= out.length()) {
            throw new IndexOutOfBoundsException();
        }
        return out.charAt(i);
    }
}
