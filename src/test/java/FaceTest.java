import java.io.IOException;
import java.lang.reflect.Constructor;
import java.lang.reflect.Field;
import java.lang.reflect.Method;
import java.lang.reflect.Modifier;
import java.nio.file.Files;
import java.nio.file.Path;
import java.util.Arrays;
import java.util.Set;
import java.util.TreeSet;
import java.util.regex.Matcher;
import java.util.regex.Pattern;

/** The public face of the document, and those rules of LANGUAGE.md that a look at the source can tell. */
public final class FaceTest {
    private static final Check CHECK = new Check();
    private static final String[] FACE = {
        "void free(int, int) NoSuchElementException",
        "int apply(int, int, int) NoSuchElementException IllegalStateException",
        "int bind(int, int, int) NoSuchElementException IllegalStateException",
        "int put(int, int, int, int) NoSuchElementException IllegalStateException",
        "int open(int, int, int) NoSuchElementException IllegalArgumentException IllegalStateException",
        "void part(int, int, boolean) NoSuchElementException IllegalArgumentException",
        "boolean step(int, int) NoSuchElementException IllegalStateException",
        "int head(int, int) NoSuchElementException IllegalStateException ArithmeticException",
        "int normal(int, int) NoSuchElementException IllegalStateException ArithmeticException",
        "boolean same(int, int) NoSuchElementException",
        "int about(int, int) NoSuchElementException IllegalArgumentException",
        "int has(int, int) NoSuchElementException",
        "int write(int) NoSuchElementException",
        "int out(int) IndexOutOfBoundsException",
    };
    private static final String[] RULED_OUT = {
        "->", "::", "\\bfinally\\b", "\\bsynchronized\\b", "\\bassert\\b", "\\btry\\b", "\\bprotected\\b", "Exact\\(",
        "static \\{", "\\bpackage\\b", "\\bhashCode\\b", "\\btoString\\b", "\\bMath\\.random\\b", "\\bThread\\b",
        "\\bSystem\\.(?!arraycopy\\b)\\w+", "\\bdouble\\b", "\\bfloat\\b", "import (?!java\\.util\\.(Arrays|NoSuchElementException);)",
    };

    public static void main(String[] args) throws IOException {
        face();
        inside();
        source();
        CHECK.end();
    }

    private static String signature(Method method) {
        StringBuilder text = new StringBuilder();
        String types = Arrays.toString(method.getParameterTypes());
        text.append(method.getReturnType()).append(' ').append(method.getName());
        text.append('(').append(types, 1, types.length() - 1).append(')');
        for (Class<?> thrown : method.getExceptionTypes()) {
            text.append(' ').append(thrown.getSimpleName());
        }
        return text.toString();
    }

    private static void face() {
        int modifiers = BindingBench.class.getModifiers();
        CHECK.equal("public and final", Modifier.isPublic(modifiers) && Modifier.isFinal(modifiers), true);
        Set<String> names = new TreeSet<>();
        Set<String> signatures = new TreeSet<>();
        for (Method method : BindingBench.class.getDeclaredMethods()) {
            if (Modifier.isPublic(method.getModifiers())) {
                names.add(method.getName());
                signatures.add(signature(method));
            }
        }
        CHECK.equal("the methods", signatures, new TreeSet<>(Arrays.asList(FACE)));
        Constructor<?>[] constructors = BindingBench.class.getDeclaredConstructors();
        CHECK.equal("constructors", constructors.length, 1);
        CHECK.equal("the constructor", constructors[0].toString(), "public BindingBench()");
        for (Method method : BindingBench.class.getDeclaredMethods()) {
            if (!Modifier.isPublic(method.getModifiers())) {
                CHECK.equal(method + " is private", Modifier.isPrivate(method.getModifiers()), true);
                CHECK.equal(method + " has a name of the face", names.contains(method.getName()), false);
            }
        }
        for (Field field : BindingBench.class.getDeclaredFields()) {
            CHECK.equal(field + " is private", Modifier.isPrivate(field.getModifiers()), true);
        }
    }

    private static void inside() {
        Class<?>[] inside = BindingBench.class.getDeclaredClasses();
        CHECK.equal("at most twelve classes", inside.length < 12, true);
        for (Class<?> one : inside) {
            CHECK.equal(one + " is static", Modifier.isStatic(one.getModifiers()), true);
            CHECK.equal(one + " is public", Modifier.isPublic(one.getModifiers()), false);
            CHECK.equal(one + " has few fields", one.getDeclaredFields().length <= 20, true);
            for (Field field : one.getDeclaredFields()) {
                CHECK.equal(field + " is static", Modifier.isStatic(field.getModifiers()), false);
            }
            for (Method method : one.getDeclaredMethods()) {
                CHECK.equal(method + " has few parameters", method.getParameterCount() <= 7, true);
                CHECK.equal(method + " is public", Modifier.isPublic(method.getModifiers()), false);
            }
        }
    }

    private static void source() throws IOException {
        String source = Files.readString(Path.of("src/main/java/BindingBench.java"));
        String code = source.replaceAll("(?s)/\\*.*?\\*/", "").replaceAll("//[^\n]*", "");
        for (String pattern : RULED_OUT) {
            Matcher matcher = Pattern.compile(pattern).matcher(code);
            if (matcher.find()) {
                CHECK.report("the source has " + matcher.group() + ", which LANGUAGE.md rules out");
            }
        }
        Set<String> ruled = new TreeSet<>();
        Matcher thrown = Pattern.compile("throw new (\\w+)\\(").matcher(code);
        while (thrown.find()) {
            ruled.add(thrown.group(1));
        }
        CHECK.equal("what is thrown", ruled.toString(), "[ArithmeticException, IllegalArgumentException, "
            + "IllegalStateException, IndexOutOfBoundsException, NoSuchElementException]");
    }
}
