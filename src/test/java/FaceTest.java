import java.io.IOException;
import java.lang.reflect.Constructor;
import java.lang.reflect.Field;
import java.lang.reflect.Method;
import java.lang.reflect.Modifier;
import java.nio.file.Files;
import java.nio.file.Path;
import java.util.Arrays;
import java.util.List;
import java.util.TreeSet;
import java.util.regex.Matcher;
import java.util.regex.Pattern;
import java.util.stream.Collectors;
import java.util.stream.Stream;

/** The face is the document's, no more and no less, and the source keeps to what LANGUAGE.md leaves of Java. */
public final class FaceTest {
    private static final Path SOURCE = Path.of("src/main/java/ElidedLocks.java");
    private static final Path DOCUMENT = Path.of("../shared/DOC.md");

    public static void main(String[] args) throws IOException {
        Desk.due("the face", actualFace(), documentFace());
        noOtherMembers();
        privateNames();
        bannedForms();
        shortMethods();
        Desk.finish();
    }

    private static TreeSet<String> documentFace() throws IOException {
        TreeSet<String> face = new TreeSet<>();
        for (String line : Files.readAllLines(DOCUMENT)) {
            String l = line.strip();
            if (l.startsWith("public ") && l.endsWith(";")) {
                face.add(l.replaceAll("(int|long|boolean) (\\w+)(?=[,)])", "$1").replaceAll(" = .*;", ";"));
            }
        }
        return face;
    }

    private static String throwing(Class<?>[] types) {
        String all = Arrays.stream(types).map(Class::getSimpleName).collect(Collectors.joining(", "));
        return all.isEmpty() ? ";" : " throws " + all + ";";
    }

    private static String taking(Class<?>[] types) {
        return Arrays.stream(types).map(Class::getSimpleName).collect(Collectors.joining(", ", "(", ")"));
    }

    private static TreeSet<String> actualFace() {
        TreeSet<String> face = new TreeSet<>();
        for (Method m : ElidedLocks.class.getDeclaredMethods()) {
            if (Modifier.isPublic(m.getModifiers())) {
                face.add("public " + m.getReturnType().getSimpleName() + " " + m.getName()
                        + taking(m.getParameterTypes()) + throwing(m.getExceptionTypes()));
            }
        }
        for (Constructor<?> c : ElidedLocks.class.getDeclaredConstructors()) {
            face.add("public ElidedLocks" + taking(c.getParameterTypes()) + throwing(c.getExceptionTypes()));
        }
        for (Field f : ElidedLocks.class.getDeclaredFields()) {
            if (Modifier.isPublic(f.getModifiers())) {
                face.add("public static final " + f.getType().getSimpleName() + " " + f.getName() + ";");
            }
        }
        return face;
    }

    private static void noOtherMembers() {
        int either = Modifier.PUBLIC | Modifier.PRIVATE;
        for (Method m : ElidedLocks.class.getDeclaredMethods()) {
            Desk.due(m.getName() + " is public or private", (m.getModifiers() & either) != 0, true);
        }
        for (Field f : ElidedLocks.class.getDeclaredFields()) {
            Desk.due(f.getName() + " is public or private", (f.getModifiers() & either) != 0, true);
            boolean still = !Modifier.isStatic(f.getModifiers()) || Modifier.isFinal(f.getModifiers());
            Desk.due(f.getName() + " is final if it is static", still, true);
        }
        for (Class<?> c : ElidedLocks.class.getDeclaredClasses()) {
            Desk.due(c.getSimpleName() + " is static", Modifier.isStatic(c.getModifiers()), true);
            Desk.due(c.getSimpleName() + "'s fields", c.getDeclaredFields().length <= 20, true);
        }
    }

    private static void privateNames() {
        List<String> face = Arrays.stream(ElidedLocks.class.getDeclaredMethods())
                .filter(m -> Modifier.isPublic(m.getModifiers())).map(Method::getName).toList();
        Stream<Class<?>> all = Stream.concat(Stream.of(ElidedLocks.class), Stream.of(ElidedLocks.class.getDeclaredClasses()));
        all.flatMap(c -> Arrays.stream(c.getDeclaredMethods())).filter(m -> !Modifier.isPublic(m.getModifiers()))
                .forEach(m -> Desk.due(m.getName() + " is of the face", face.contains(m.getName()), false));
    }

    private static void bannedForms() throws IOException {
        String source = Files.readString(SOURCE).replaceAll("(?s)/\\*.*?\\*/", "").replaceAll("//[^\n]*", "");
        for (String banned : List.of("->", "::", "\\btry\\b", "\\bcatch\\b", "\\bfinally\\b", "\\bassert\\b",
                "\\bsynchronized\\b", "Exact\\(", "\\bdouble\\b", "\\bfloat\\b", "\\bvar\\b", "while \\(true\\)",
                "for \\(;", "static \\{", "\\bprotected\\b", "\\bSystem\\.(?!arraycopy)", "\" \\+", "\\+ \"")) {
            Desk.due("the source has " + banned, Pattern.compile(banned).matcher(source).find(), false);
        }
        Matcher imports = Pattern.compile("(?m)^import .*$").matcher(source);
        while (imports.find()) {
            Desk.due("import", imports.group(), "import java.util.NoSuchElementException;");
        }
    }

    private static void shortMethods() throws IOException {
        List<String> lines = Files.readAllLines(SOURCE);
        int begin = -1;
        for (int k = 0; k < lines.size(); k++) {
            String line = lines.get(k);
            if (line.matches("( {4}| {8})[^ ].*\\) (throws .*)?\\{")) {
                begin = k;
            } else if (begin >= 0 && line.matches("( {4}| {8})\\}")) {
                Desk.due("lines of " + lines.get(begin).strip(), k - begin < 60, true);
                begin = -1;
            }
        }
    }
}
