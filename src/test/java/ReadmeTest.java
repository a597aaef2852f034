import java.io.File;
import java.lang.reflect.InvocationTargetException;
import java.lang.reflect.Method;
import java.lang.reflect.Modifier;
import java.nio.file.Files;
import java.nio.file.Path;
import java.util.regex.Matcher;
import java.util.regex.Pattern;

/** The calls that README.md shows are answered as it says, and it names all calls and tests. */
public final class ReadmeTest {
    private static final String OPENS = "```java\n";
    private static final String CLOSES = "```\n";
    private static final String MAKES = "SlabKitchen kitchen = new SlabKitchen();";

    private static final Pattern CALL = Pattern.compile(
            "kitchen\\.(\\w+)\\(([\\d, -]*)\\);\\s*// (throws \\w+|-?\\d+(?:\\.\\d+)?)(?::.*)?");

    public static void main(String[] args) throws Exception {
        String page = Files.readString(Path.of("README.md"));
        String[] lines = shown(page).split("\n");
        Check.dueText("the first line shown", lines[0], MAKES);
        SlabKitchen kitchen = new SlabKitchen();
        for (int i = 1; i < lines.length; i++) {
            answered(kitchen, lines[i]);
        }
        namesAllCalls(shown(page));
        namesAllTests(page);
        Check.end();
    }

    private static String shown(String page) {
        int start = page.indexOf(OPENS) + OPENS.length();
        return page.substring(start, page.indexOf(CLOSES, start));
    }

    private static void answered(SlabKitchen kitchen, String line) throws Exception {
        Matcher call = CALL.matcher(line);
        if (!call.matches()) {
            Check.tellWrong("no call with its answer: " + line);
            return;
        }
        Check.dueText(line, answer(kitchen, call.group(1), call.group(2)), call.group(3));
    }

    private static String answer(SlabKitchen kitchen, String name, String arguments)
            throws Exception {
        String[] texts = arguments.isEmpty() ? new String[0] : arguments.split(", ");
        Class<?>[] types = new Class<?>[texts.length];
        Object[] numbers = new Object[texts.length];
        for (int i = 0; i < texts.length; i++) {
            types[i] = int.class;
            numbers[i] = Integer.valueOf(texts[i]);
        }
        try {
            return SlabKitchen.class.getMethod(name, types).invoke(kitchen, numbers).toString();
        } catch (InvocationTargetException e) {
            return "throws " + e.getCause().getClass().getSimpleName();
        }
    }

    private static void namesAllCalls(String shown) {
        for (Method method : SlabKitchen.class.getDeclaredMethods()) {
            if (Modifier.isPublic(method.getModifiers())) {
                named(shown, "kitchen." + method.getName() + "(");
            }
        }
    }

    private static void namesAllTests(String page) {
        for (String file : new File("src/test/java").list()) {
            if (file.endsWith("Test.java")) {
                named(page, "| `" + file.substring(0, file.length() - ".java".length()) + "` |");
            }
        }
    }

    private static void named(String text, String name) {
        Check.due("README.md names " + name + ": 1 if so", text.contains(name) ? 1 : 0, 1);
    }
}
