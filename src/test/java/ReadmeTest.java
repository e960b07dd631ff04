import java.io.IOException;
import java.lang.reflect.Method;
import java.lang.reflect.Modifier;
import java.nio.file.Files;
import java.nio.file.Path;
import java.util.List;
import java.util.regex.Matcher;
import java.util.regex.Pattern;

/** The example of README.md answers what it says, and README.md tells of every method and of .ci/run. */
public final class ReadmeTest {
    private static final Checks CHECKS = new Checks();
    private static final Pattern LINE = Pattern.compile("caller\\.(\\w+)\\((.*?)\\);(?: *// (-?\\w+): .*)?");

    public static void main(String[] args) throws IOException {
        String readme = Files.readString(Path.of("README.md"));
        int from = readme.indexOf("```java\n");
        int to = readme.indexOf("```\n", from + 1);
        CHECKS.equal("README.md has an example", String.valueOf(from >= 0 && to > from), "true");
        example(readme.substring(from, to).lines().skip(1).toList());
        for (Method method : FigureCaller.class.getDeclaredMethods()) {
            if (Modifier.isPublic(method.getModifiers())) {
                String name = "`" + method.getName() + "`";
                CHECKS.equal("README.md tells of " + name, String.valueOf(readme.contains(name)), "true");
            }
        }
        CHECKS.equal("README.md tells of .ci/run", String.valueOf(readme.contains("\n.ci/run\n")), "true");
        CHECKS.end();
    }

    private static void example(List<String> lines) {
        CHECKS.equal("the first line", lines.get(0), "FigureCaller caller = new FigureCaller();");
        FigureCaller caller = new FigureCaller();
        for (String line : lines.subList(1, lines.size())) {
            Matcher m = LINE.matcher(line);
            boolean read = m.matches();
            CHECKS.equal("a line of the example is a call: " + line, String.valueOf(read), "true");
            if (read) {
                CHECKS.equal(line, answer(caller, m.group(1), m.group(2)), String.valueOf(m.group(3)));
            }
        }
    }

    /** What the method with a name answers; null if it answers nothing. */
    private static String answer(FigureCaller caller, String name, String arguments) {
        for (Method method : FigureCaller.class.getDeclaredMethods()) {
            if (method.getName().equals(name)) {
                try {
                    return String.valueOf(method.invoke(caller, values(method.getParameterTypes(), arguments)));
                } catch (ReflectiveOperationException e) {
                    return String.valueOf(e.getCause());
                }
            }
        }
        return "there is no such method";
    }

    private static Object[] values(Class<?>[] types, String arguments) {
        String[] texts = arguments.isEmpty() ? new String[0] : arguments.split(", ");
        Object[] values = new Object[texts.length];
        for (int i = 0; i < texts.length; i++) {
            if (types[i] == long.class) {
                values[i] = Long.decode(texts[i].replace("_", "").replace("L", ""));
            } else if (types[i] == boolean.class) {
                values[i] = Boolean.valueOf(texts[i]);
            } else {
                values[i] = Integer.valueOf(texts[i]);
            }
        }
        return values;
    }
}
