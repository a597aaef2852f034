import java.lang.reflect.Constructor;
import java.lang.reflect.Field;
import java.lang.reflect.Method;
import java.lang.reflect.Modifier;
import java.nio.file.Files;
import java.nio.file.Path;
import java.util.Arrays;
import java.util.Set;
import java.util.TreeSet;
import java.util.regex.Matcher;
import java.util.regex.Pattern;

/** The face of the document, and those rules of ../shared/LANGUAGE.md that a glance can tell. */
public final class LanguageTest {
    private static final String[] FACE = {
        "int kind(int) IllegalArgumentException IllegalStateException",
        "int setWay(int) IndexOutOfBoundsException",
        "int put(int) IndexOutOfBoundsException IllegalStateException",
        "int take(int) IndexOutOfBoundsException IllegalArgumentException",
        "int reap(int) IllegalArgumentException",
        "int pack(int) IndexOutOfBoundsException",
        "int shelf(int, int) IndexOutOfBoundsException",
        "int about(int, int) IndexOutOfBoundsException",
        "int place(int, int) IndexOutOfBoundsException",
        "int count(int) IndexOutOfBoundsException",
        "int next(int) IndexOutOfBoundsException",
        "int fits(int) IndexOutOfBoundsException",
        "int would(int, int) IndexOutOfBoundsException IllegalArgumentException",
        "int gains(int) IndexOutOfBoundsException",
        "int advise()",
        "double mean()",
        "long digest()",
    };

    private static final String[] FORBIDDEN = {
        "->", "::", "\\bimport\\b", "\\bpackage\\b", "\\bfinally\\b", "\\bsynchronized\\b",
        "\\bassert\\b", "\\btry\\b", "\\bcatch\\b", "\\bstatic\\s*\\{", "\\bSystem\\.(?!arraycopy)",
        "\\w+Exact\\(", "\\binstanceof\\b", "\\.equals\\(", "\\bhashCode\\b", "\\btoString\\b",
    };

    public static void main(String[] args) throws Exception {
        face();
        members();
        nestedClasses();
        source();
        Check.end();
    }

    private static void face() {
        Set<String> want = new TreeSet<>(Arrays.asList(FACE));
        Set<String> got = new TreeSet<>();
        for (Method method : SlabKitchen.class.getDeclaredMethods()) {
            if (!Modifier.isPrivate(method.getModifiers())) {
                got.add(told(method));
                holds(method + " is public and of the object",
                        method.getModifiers() == Modifier.PUBLIC);
            }
        }
        holds("the face is " + want + ", found " + got, got.equals(want));
        Constructor<?>[] constructors = SlabKitchen.class.getDeclaredConstructors();
        holds("one public constructor without parameters", constructors.length == 1
                && Modifier.isPublic(constructors[0].getModifiers())
                && constructors[0].getParameterCount() == 0);
        int modifiers = SlabKitchen.class.getModifiers();
        holds("public and final", Modifier.isPublic(modifiers) && Modifier.isFinal(modifiers));
    }

    private static String told(Method method) {
        StringBuilder text = new StringBuilder();
        text.append(method.getReturnType()).append(' ').append(method.getName());
        String parameters = Arrays.toString(method.getParameterTypes());
        text.append('(').append(parameters, 1, parameters.length() - 1).append(')');
        for (Class<?> thrown : method.getExceptionTypes()) {
            text.append(' ').append(thrown.getSimpleName());
        }
        return text.toString();
    }

    private static void members() {
        Set<String> names = new TreeSet<>();
        for (Method method : SlabKitchen.class.getMethods()) {
            if (method.getDeclaringClass() == SlabKitchen.class) {
                names.add(method.getName());
            }
        }
        for (Method method : SlabKitchen.class.getDeclaredMethods()) {
            boolean hidden = Modifier.isPrivate(method.getModifiers());
            holds(method + " bears no public name", !hidden || !names.contains(method.getName()));
            holds(method + " takes seven at most", method.getParameterCount() <= 7);
        }
        for (Field field : SlabKitchen.class.getDeclaredFields()) {
            int modifiers = field.getModifiers();
            holds(field + " is private", Modifier.isPrivate(modifiers));
            holds(field + " is final if static",
                    !Modifier.isStatic(modifiers) || Modifier.isFinal(modifiers));
        }
    }

    private static void nestedClasses() {
        for (Class<?> nested : SlabKitchen.class.getDeclaredClasses()) {
            int modifiers = nested.getModifiers();
            holds(nested + " is static and not public", Modifier.isStatic(modifiers)
                    && !Modifier.isPublic(modifiers) && !Modifier.isProtected(modifiers));
        }
    }

    private static void source() throws Exception {
        String text = Files.readString(Path.of("src/main/java/SlabKitchen.java"));
        holds("plain signs alone", text.chars().allMatch(c -> c < 128));
        String code = text.replaceAll("(?s)/\\*.*?\\*/", "").replaceAll("//[^\n]*", "")
                .replaceAll("\"[^\"]*\"", "\"\"");
        for (String forbidden : FORBIDDEN) {
            Matcher found = Pattern.compile(forbidden).matcher(code);
            holds("no " + forbidden + " in the program", !found.find());
        }
    }

    private static void holds(String rule, boolean kept) {
        Check.due(rule, kept ? 1 : 0, 1);
    }
}
