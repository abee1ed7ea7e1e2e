import java.io.IOException;
import java.lang.reflect.Method;
import java.nio.file.Files;
import java.nio.file.Path;
import java.util.Map;
import java.util.Set;
import java.util.TreeMap;
import java.util.TreeSet;
import java.util.regex.Matcher;
import java.util.regex.Pattern;

/** That the example of README.md makes and answers what its comments say, and has every call of the face. */
public final class ReadmeTest {
    private static final Check CHECK = new Check();
    private static final String BEGIN = "```java\n";
    private static final String END = "```";
    private static final Pattern LINE =
        Pattern.compile("x\\.(\\w+)\\((.*?)\\); +// (?:REGISTER (\\d+): (.*?))? *(?:answer (\\w+).*)?");

    public static void main(String[] args) throws IOException, ReflectiveOperationException {
        String readme = Files.readString(Path.of("README.md"));
        int start = readme.indexOf(BEGIN) + BEGIN.length();
        String[] lines = readme.substring(start, readme.indexOf(END, start)).split("\n");
        Map<String, Method> face = face();
        Set<String> called = new TreeSet<>();
        CHECK.equal("the first line", lines[0], "BindingBench x = new BindingBench();");
        BindingBench x = new BindingBench();
        for (int i = 1; i < lines.length; i++) {
            Matcher line = LINE.matcher(lines[i]);
            if (line.matches() && face.containsKey(line.group(1))) {
                called.add(line.group(1));
                look(x, face.get(line.group(1)), line);
            } else {
                CHECK.report("no call, or nothing said of it: " + lines[i]);
            }
        }
        CHECK.equal("the calls of the example", called, face.keySet());
        CHECK.end();
    }

    private static Map<String, Method> face() {
        Map<String, Method> face = new TreeMap<>();
        for (Method method : BindingBench.class.getMethods()) {
            if (method.getDeclaringClass() == BindingBench.class) {
                face.put(method.getName(), method);
            }
        }
        return face;
    }

    private static void look(BindingBench x, Method method, Matcher line) throws ReflectiveOperationException {
        String[] written = line.group(2).split(", ");
        Object[] arguments = new Object[written.length];
        for (int i = 0; i < written.length; i++) {
            boolean number = method.getParameterTypes()[i] == int.class;
            arguments[i] = number ? (Object) Integer.valueOf(written[i]) : (Object) Boolean.valueOf(written[i]);
        }
        // A call without an answer gives null here, and so does a comment that tells none.
        CHECK.equal(line.group(), String.valueOf(method.invoke(x, arguments)), String.valueOf(line.group(5)));
        if (line.group(3) != null) {
            CHECK.equal(line.group(), Terms.text(x, Integer.parseInt(line.group(3))), line.group(4));
        }
    }
}
