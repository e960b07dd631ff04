import java.io.IOException;
import java.lang.reflect.Constructor;
import java.lang.reflect.Field;
import java.lang.reflect.Method;
import java.lang.reflect.Modifier;
import java.nio.file.Files;
import java.nio.file.Path;
import java.util.Arrays;
import java.util.Set;
import java.util.TreeSet;
import java.util.stream.Collectors;

/** The class has the document's face and nothing besides, and its file keeps to rules that a text shows. */
public final class FaceTest {
    private static final Path SOURCE = Path.of("src/main/java/FigureCaller.java");
    private static final Path DOCUMENT = Path.of("../shared/DOC.md");
    private static final Checks CHECKS = new Checks();

    public static void main(String[] args) throws IOException {
        members();
        nestedClasses();
        source(Files.readString(SOURCE));
        CHECKS.end();
    }

    private static void members() throws IOException {
        Class<?> c = FigureCaller.class;
        CHECKS.equal("the class is public and final", Modifier.toString(c.getModifiers()), "public final");
        Set<String> face = new TreeSet<>();
        Set<String> hidden = new TreeSet<>();
        for (Method m : c.getDeclaredMethods()) {
            if (Modifier.isPrivate(m.getModifiers())) {
                hidden.add(m.getName());
            } else {
                face.add(told(m));
            }
        }
        for (Constructor<?> k : c.getDeclaredConstructors()) {
            face.add(Modifier.toString(k.getModifiers()) + " FigureCaller(" + k.getParameterCount() + ")");
        }
        for (Field f : c.getDeclaredFields()) {
            CHECKS.equal(f.getName() + " is private", String.valueOf(Modifier.isPrivate(f.getModifiers())), "true");
        }
        CHECKS.equal("the face", String.join("\n", face), String.join("\n", documentFace()));
        hidden.retainAll(Arrays.stream(c.getMethods()).map(Method::getName).collect(Collectors.toSet()));
        CHECKS.equal("private methods with a public one's name", hidden.toString(), "[]");
    }

    private static String told(Method m) {
        return Modifier.toString(m.getModifiers()) + " " + m.getReturnType().getSimpleName() + " " + m.getName() + "("
            + Arrays.stream(m.getParameterTypes()).map(Class::getSimpleName).collect(Collectors.joining(" ")) + ") "
            + Arrays.stream(m.getExceptionTypes()).map(Class::getSimpleName).collect(Collectors.joining(" "));
    }

    /** The lines of the document's public face, told as the class's own are. */
    private static Set<String> documentFace() throws IOException {
        Set<String> face = new TreeSet<>();
        for (String line : Files.readAllLines(DOCUMENT)) {
            if (line.startsWith("    public FigureCaller(")) {
                face.add("public FigureCaller(0)");
            } else if (line.startsWith("    public ")) {
                String[] halves = line.trim().replace(";", "").split("\\) ?");
                String parameters = halves[0].substring(halves[0].indexOf('(') + 1).replaceAll("(\\w+) \\w+,? ?", "$1 ").trim();
                String exceptions = halves.length > 1 ? halves[1].replace("throws ", "").replace(",", "") : "";
                face.add(halves[0].substring(0, halves[0].indexOf('(')) + "(" + parameters + ") " + exceptions);
            }
        }
        return face;
    }

    private static void nestedClasses() {
        Class<?>[] nested = FigureCaller.class.getDeclaredClasses();
        CHECKS.equal("at most twelve classes", String.valueOf(nested.length < 12), "true");
        for (Class<?> n : nested) {
            int modifiers = n.getModifiers();
            CHECKS.equal(n.getSimpleName() + " is static and not public",
                String.valueOf(Modifier.isStatic(modifiers) && !Modifier.isPublic(modifiers) && !Modifier.isProtected(modifiers)), "true");
            long fields = Arrays.stream(n.getDeclaredFields()).filter(f -> !Modifier.isStatic(f.getModifiers())).count();
            CHECKS.equal(n.getSimpleName() + " has at most twenty fields", String.valueOf(fields <= 20), "true");
            for (Method m : n.getDeclaredMethods()) {
                CHECKS.equal(n.getSimpleName() + "." + m.getName() + " has at most seven parameters",
                    String.valueOf(m.getParameterCount() <= 7), "true");
            }
        }
    }

    private static void source(String text) {
        for (String never : new String[] {"package ", "import ", "->", "::", "finally", "synchronized", "assert ", "static {",
            "getMessage", "System.out", "System.nano", "System.current", "Random", "Thread", "Exact(", "hashCode", "toString"}) {
            CHECKS.equal("the source has " + never, String.valueOf(text.contains(never)), "false");
        }
    }
}
