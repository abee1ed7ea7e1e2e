import java.util.ArrayList;
import java.util.List;

/**
 * What an object shows behind some calls. Each look takes a new object that has had these calls, as
 * nothing is promised of one behind its 512th call.
 */
final class Shown {
    /** With these looks at OUT, an object may have had some 300 calls before. */
    private static final int LOOKS = 160;
    /** Far above the longest text: 1,000 places with less than 150 marks each. */
    private static final int LONGEST = 400_000;

    private Shown() {
    }

    /** An object in which each REGISTER differs from the others and OUT is not empty, behind the calls. */
    static BindingBench behind(Calls calls) {
        BindingBench x = new BindingBench();
        for (int i = 0; i < 16; i++) {
            x.free(i, 30 + i);
        }
        x.write(7);
        calls.on(x);
        return x;
    }

    static String out(Calls calls) {
        StringBuilder text = new StringBuilder();
        while (text.length() < LONGEST) {
            BindingBench x = behind(calls);
            int end = text.length() + LOOKS;
            try {
                while (text.length() < end) {
                    text.append((char) x.out(text.length()));
                }
            } catch (IndexOutOfBoundsException e) {
                return text.toString();
            }
        }
        throw new IllegalStateException("OUT has no end");
    }

    static String written(Calls calls, int a) {
        return out(calls.and(x -> x.write(a)));
    }

    /** All REGISTERS, OUT, and what some calls answer that make terms. */
    static List<String> all(Calls calls) {
        List<String> shown = new ArrayList<>();
        shown.add("OUT " + out(calls));
        for (int i = 0; i < 16; i++) {
            shown.add(i + ": " + written(calls, i));
        }
        BindingBench x = behind(calls);
        for (int i = 0; i < 4; i++) {
            int a = i;
            shown.add("apply " + answer(() -> x.apply(9, a, 15)));
            shown.add("bind " + answer(() -> x.bind(9, 9, 33)));
            shown.add("open " + answer(() -> x.open(9, 9, 15)));
            shown.add("step " + answer(() -> x.step(9, a) ? 1 : 0));
            shown.add("head " + answer(() -> x.head(9, a)));
            shown.add("normal " + answer(() -> x.normal(9, a)));
            shown.add("write " + answer(() -> x.write(9)));
        }
        return shown;
    }

    interface Call {
        int answer();
    }

    /** The answer, or the name of what was thrown. */
    static String answer(Call call) {
        try {
            return Integer.toString(call.answer());
        } catch (RuntimeException e) {
            return e.getClass().getName();
        }
    }
}
