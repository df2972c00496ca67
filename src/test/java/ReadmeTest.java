import java.io.IOException;
import java.lang.reflect.Method;
import java.lang.reflect.Modifier;
import java.nio.file.Files;
import java.nio.file.Path;
import java.util.HashMap;
import java.util.Map;
import java.util.regex.Matcher;
import java.util.regex.Pattern;

/** README.md's example answers what it says, and no call of the face is left out of the page. */
public final class ReadmeTest {
    private static final String FENCE = "```";
    private static final String BEGINNING = "ControlRegister register = new ControlRegister();";
    private static final Pattern CALL = Pattern.compile("register\\.(\\w+)\\(([-0-9, ]*)\\);\\s+// (-?\\d+): .+");

    private final Check check = new Check();
    private final Map<String, Method> face = new HashMap<>();

    public static void main(String[] args) throws IOException, ReflectiveOperationException {
        ReadmeTest t = new ReadmeTest();
        String page = Files.readString(Path.of(System.getProperty("project.root", "."), "README.md"));
        t.namesEveryCall(page);
        t.example(page);
        t.check.end();
    }

    private void namesEveryCall(String page) {
        for (Method m : ControlRegister.class.getDeclaredMethods()) {
            if (Modifier.isPublic(m.getModifiers())) {
                face.put(m.getName(), m);
                check.isTrue("the page names " + m.getName(), page.contains("`" + m.getName() + "`"));
            }
        }
    }

    private void example(String page) throws ReflectiveOperationException {
        int start = page.indexOf(FENCE + "java\n");
        int end = page.indexOf("\n" + FENCE, start + 1);
        check.isTrue("there is an example", start >= 0 && end > start);
        if (start < 0 || end < start) {
            return;
        }
        String[] lines = page.substring(start, end).split("\n");
        check.isTrue("the example begins with a new object", lines.length > 2 && lines[1].equals(BEGINNING));
        ControlRegister register = new ControlRegister();
        for (int i = 2; i < lines.length; i++) {
            line(register, lines[i]);
        }
    }

    private void line(ControlRegister register, String line) throws ReflectiveOperationException {
        Matcher m = CALL.matcher(line);
        boolean isCall = m.matches() && face.containsKey(m.group(1));
        check.isTrue("a call with its answer: " + line, isCall);
        if (isCall) {
            Object[] args = numbers(m.group(2));
            Number got = (Number) face.get(m.group(1)).invoke(register, args);
            check.due("README: " + line, got.longValue(), Long.parseLong(m.group(3)));
        }
    }

    private static Object[] numbers(String list) {
        String[] parts = list.split(", ");
        Object[] numbers = new Object[parts.length];
        for (int i = 0; i < parts.length; i++) {
            numbers[i] = Integer.parseInt(parts[i]);
        }
        return numbers;
    }
}
