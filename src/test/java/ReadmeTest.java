import java.io.IOException;
import java.lang.reflect.Field;
import java.lang.reflect.Method;
import java.nio.file.Files;
import java.nio.file.Path;
import java.util.HashMap;
import java.util.Map;
import java.util.regex.Matcher;
import java.util.regex.Pattern;

/** The examples of README.md: each of their calls answers the number that stands behind it. */
public final class ReadmeTest {
    private static final String MAKE = "SiteCuts map = new SiteCuts();";
    private static final Pattern CALL = Pattern.compile(
        "(?:int (\\w+) = )?map\\.(\\w+)\\((.*)\\); +// (-?\\d+|[A-Z_]+)(?:: .*)?");

    private static int calls;
    private static int wrong;

    public static void main(String[] args) throws IOException, ReflectiveOperationException {
        Matcher examples = Pattern.compile("```java\n(.*?)```", Pattern.DOTALL)
            .matcher(Files.readString(Path.of("README.md")));
        int found = 0;
        while (examples.find()) {
            found++;
            run(examples.group(1).split("\n"));
        }
        System.out.println(found + " examples, " + calls + " calls, " + wrong + " wrong");
        if (found == 0 || calls == 0 || wrong != 0) {
            System.exit(1);
        }
    }

    private static void fault(String line, String what) {
        wrong++;
        System.out.println(line + ": " + what);
    }

    private static void run(String[] lines) throws ReflectiveOperationException {
        SiteCuts map = new SiteCuts();
        Map<String, Integer> names = new HashMap<>();
        for (Field field : SiteCuts.class.getFields()) {
            names.put(field.getName(), field.getInt(null));
        }
        for (String line : lines) {
            if (line.equals(MAKE)) {
                map = new SiteCuts();
                continue;
            }
            Matcher call = CALL.matcher(line);
            if (!call.matches()) {
                fault(line, "is no call with its answer");
                continue;
            }
            int got = answer(map, call.group(2), call.group(3), names);
            int due = number(call.group(4), names);
            calls++;
            if (got != due) {
                fault(line, "answered " + got);
            }
            if (call.group(1) != null) {
                names.put(call.group(1), got);
            }
        }
    }

    private static int answer(SiteCuts map, String name, String text, Map<String, Integer> names)
        throws ReflectiveOperationException {
        String[] words = text.isEmpty() ? new String[0] : text.split(", ");
        for (Method method : SiteCuts.class.getMethods()) {
            if (method.getName().equals(name) && method.getParameterCount() == words.length) {
                Object[] values = new Object[words.length];
                for (int i = 0; i < words.length; i++) {
                    values[i] = value(method.getParameterTypes()[i], words[i], names);
                }
                return (Integer) method.invoke(map, values);
            }
        }
        throw new IllegalArgumentException("there is no such call: " + name);
    }

    private static Object value(Class<?> type, String word, Map<String, Integer> names) {
        if (type == boolean.class) {
            return Boolean.valueOf(word);
        }
        return type == char.class ? (Object) word.charAt(1) : (Object) number(word, names);
    }

    private static Integer number(String word, Map<String, Integer> names) {
        Integer named = names.get(word);
        return named == null ? Integer.valueOf(word) : named;
    }
}
