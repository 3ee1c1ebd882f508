import java.io.IOException;
import java.lang.reflect.InvocationTargetException;
import java.lang.reflect.Method;
import java.lang.reflect.Modifier;
import java.nio.file.Files;
import java.nio.file.Path;
import java.util.regex.Matcher;
import java.util.regex.Pattern;

/** What README.md shows is what the class does. */
public final class ReadmeTest {
    private static final Pattern CALL = Pattern.compile("x\\.(\\w+)\\((.*?)\\);\\s*// (.*?)(:.*)?");
    private static final Pattern TEXT = Pattern.compile("tell\\(x, \"(.*)\"\\);");

    public static void main(String[] args) throws Exception {
        everyCallIsNamed();
        Desk desk = new Desk();
        boolean isJava = false;
        for (String line : Files.readAllLines(Path.of("README.md"))) {
            isJava = line.startsWith("```") ? line.equals("```java") : isJava;
            if (!isJava || line.startsWith("```")) {
                continue;
            }
            if (line.startsWith("ElidedLocks x = ")) {
                desk = new Desk();
            } else {
                show(desk, line);
            }
        }
        Desk.finish();
    }

    private static void show(Desk desk, String line) throws IllegalAccessException, InvocationTargetException {
        Matcher text = TEXT.matcher(line);
        Matcher call = CALL.matcher(line);
        if (text.matches()) {
            desk.tell(text.group(1));
        } else if (call.matches()) {
            Object got = make(desk.x, call.group(1), call.group(2));
            if (got != null) {
                Desk.due(line, got, call.group(3));
            }
        } else {
            Desk.due("README.md: " + line, "no call", "a call");
        }
    }

    private static Object make(ElidedLocks x, String name, String numbers)
            throws IllegalAccessException, InvocationTargetException {
        for (Method m : ElidedLocks.class.getDeclaredMethods()) {
            if (m.getName().equals(name) && Modifier.isPublic(m.getModifiers())) {
                String[] all = numbers.isEmpty() ? new String[0] : numbers.split(", ");
                Object[] arguments = new Object[all.length];
                for (int k = 0; k < all.length; k++) {
                    arguments[k] = (int) (long) Long.decode(all[k]);
                }
                return m.invoke(x, arguments);
            }
        }
        return "no such call";
    }

    private static void everyCallIsNamed() throws IOException {
        String page = Files.readString(Path.of("README.md"));
        for (Method m : ElidedLocks.class.getDeclaredMethods()) {
            if (Modifier.isPublic(m.getModifiers())) {
                Desk.due("README.md names " + m.getName(), page.contains("`" + m.getName() + "`"), true);
            }
        }
    }
}
