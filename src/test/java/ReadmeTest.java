import java.io.IOException;
import java.lang.reflect.InvocationTargetException;
import java.lang.reflect.Method;
import java.lang.reflect.Modifier;
import java.nio.file.Files;
import java.nio.file.Path;
import java.util.HashMap;
import java.util.Map;
import java.util.Set;
import java.util.TreeSet;
import java.util.regex.Matcher;
import java.util.regex.Pattern;

/** Makes the calls of README.md's example, so that a reader is never told an answer that the class does not give. */
public final class ReadmeTest {
    private static final String START = "PostLedger books = new PostLedger();";
    private static final Pattern BLOCK = Pattern.compile("```java\n(.*?)```", Pattern.DOTALL);
    private static final Pattern CALL =
        Pattern.compile("(?:int (\\w+) = )?books\\.(\\w+)\\((.*)\\); +// (throws \\w+|-?\\w+)(?:: .*)?");

    private static final Due due = new Due();
    private static final PostLedger books = new PostLedger();
    private static final Map<String, Integer> variables = new HashMap<>();
    private static final Set<String> called = new TreeSet<>();

    public static void main(String[] args) throws IOException, ReflectiveOperationException {
        Matcher block = BLOCK.matcher(Files.readString(Path.of("README.md")));
        if (!block.find()) {
            due.fault("README.md has no example");
        } else {
            runExample(block.group(1));
        }
        for (Method method : PostLedger.class.getDeclaredMethods()) {
            if (Modifier.isPublic(method.getModifiers()) && !called.contains(method.getName())) {
                due.fault("README.md's example leaves out " + method.getName());
            }
        }
        due.endProgram("ReadmeTest");
    }

    private static void runExample(String example) throws ReflectiveOperationException {
        for (String line : example.split("\n")) {
            Matcher call = CALL.matcher(line);
            if (call.matches()) {
                makeCall(line, call);
            } else if (!line.isEmpty() && !line.equals(START)) {
                due.fault("README.md's example has a line that is no call with its answer: " + line);
            }
        }
    }

    private static void makeCall(String line, Matcher call) throws ReflectiveOperationException {
        String variable = call.group(1);
        Method method = methodNamed(call.group(2));
        if (method == null) {
            due.fault("no such call: " + line);
            return;
        }
        called.add(method.getName());
        String got = answer(method, call.group(3));
        if (!got.equals(told(call.group(4)))) {
            due.fault(line + " .. answered " + got);
        } else if (variable != null) {
            variables.put(variable, Integer.valueOf(got));
        }
    }

    private static Method methodNamed(String name) {
        for (Method method : PostLedger.class.getMethods()) {
            if (method.getName().equals(name)) {
                return method;
            }
        }
        return null;
    }

    private static String answer(Method method, String arguments) throws ReflectiveOperationException {
        String[] words = arguments.isEmpty() ? new String[0] : arguments.split(", ");
        Class<?>[] types = method.getParameterTypes();
        Object[] values = new Object[words.length];
        for (int i = 0; i < words.length && i < types.length; i++) {
            values[i] = value(words[i], types[i]);
        }
        try {
            return String.valueOf(method.invoke(books, values));
        } catch (InvocationTargetException thrown) {
            return "throws " + thrown.getCause().getClass().getSimpleName();
        }
    }

    private static Object value(String word, Class<?> type) {
        if (type == boolean.class) {
            return Boolean.valueOf(word);
        }
        Integer number = variables.containsKey(word) ? variables.get(word) : Integer.valueOf(word);
        if (type == long.class) {
            return number.longValue();
        }
        return number;
    }

    private static String told(String word) {
        return switch (word) {
            case "UNKNOWN" -> String.valueOf(PostLedger.UNKNOWN);
            case "OUTSIDE" -> String.valueOf(PostLedger.OUTSIDE);
            case "STATE" -> String.valueOf(PostLedger.STATE);
            case "ROOM" -> String.valueOf(PostLedger.ROOM);
            default -> word;
        };
    }
}
