import java.io.IOException;
import java.lang.reflect.InvocationTargetException;
import java.lang.reflect.Method;
import java.lang.reflect.Modifier;
import java.nio.charset.StandardCharsets;
import java.nio.file.Files;
import java.nio.file.Path;
import java.util.List;
import java.util.regex.Matcher;
import java.util.regex.Pattern;

/** Makes the calls that README.md shows, and looks whether they answer as it says; it is run beside README.md. */
public final class ReadmeTest {

    private static final String NEW_OBJECT = "LongCaterpillars x = new LongCaterpillars();";
    private static final Pattern TEXT = Pattern.compile("for \\(char c : \"(.*)\"\\.toCharArray\\(\\)\\) \\{");
    private static final List<String> BEHIND_TEXT = List.of("    x.append(c);", "}");
    private static final Pattern CALL = Pattern.compile("x\\.(\\w+)\\((.*)\\); +// (-?\\d+|\\w+Exception): .+");

    private static LongCaterpillars x = new LongCaterpillars();
    private static int calls = 0;

    private ReadmeTest() {
    }

    public static void main(String[] args) throws IOException, ReflectiveOperationException {
        String page = Files.readString(Path.of("README.md"), StandardCharsets.UTF_8);
        boolean isJava = false;
        for (String row : page.split("\n")) {
            if (row.startsWith("```")) {
                isJava = row.equals("```java");
            } else if (isJava) {
                follow(row);
            }
        }
        if (calls == 0) {
            Check.tell("README.md shows no call");
        }
        everyCallIsNamed(page);
        Check.end();
    }

    private static void follow(String row) throws ReflectiveOperationException {
        Matcher text = TEXT.matcher(row);
        Matcher call = CALL.matcher(row);
        if (row.equals(NEW_OBJECT)) {
            x = new LongCaterpillars();
        } else if (text.matches()) {
            Check.write(x, text.group(1));
        } else if (call.matches()) {
            calls++;
            Check.dueWords(row, answer(call.group(1), call.group(2)), call.group(3));
        } else if (!BEHIND_TEXT.contains(row)) {
            Check.tell("this row of README.md is no call with its answer: " + row);
        }
    }

    /** The answer as README.md writes it: a number, or the name of the exception. */
    private static String answer(String name, String written) throws ReflectiveOperationException {
        Method method = methodOf(name);
        try {
            return String.valueOf(method.invoke(x, arguments(method.getParameterTypes(), written)));
        } catch (InvocationTargetException e) {
            return e.getCause().getClass().getSimpleName();
        }
    }

    private static Method methodOf(String name) {
        for (Method m : LongCaterpillars.class.getMethods()) {
            if (m.getName().equals(name)) {
                return m;
            }
        }
        throw new IllegalArgumentException("README.md names a call that there is not: " + name);
    }

    private static Object[] arguments(Class<?>[] types, String written) {
        Object[] values = new Object[types.length];
        String[] words = written.split(", ");
        for (int k = 0; k < types.length; k++) {
            if (types[k] == boolean.class) {
                values[k] = Boolean.valueOf(words[k]);
            } else if (types[k] == long.class) {
                values[k] = Long.valueOf(words[k].replace("L", ""));
            } else {
                values[k] = Integer.valueOf(words[k]);
            }
        }
        return values;
    }

    private static void everyCallIsNamed(String page) {
        for (Method m : LongCaterpillars.class.getDeclaredMethods()) {
            if (Modifier.isPublic(m.getModifiers()) && !page.contains("`" + m.getName() + "`")) {
                Check.tell("README.md does not name " + m.getName());
            }
        }
    }
}
