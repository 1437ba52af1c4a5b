import java.io.IOException;
import java.lang.reflect.InvocationTargetException;
import java.lang.reflect.Method;
import java.lang.reflect.Modifier;
import java.nio.file.Files;
import java.nio.file.Path;
import java.util.HashMap;
import java.util.Map;
import java.util.regex.Matcher;
import java.util.regex.Pattern;

/** README.md: its calls answer what it tells, and it has each call of the public face. */
public final class ReadmeTest {
    private static final Due due = new Due();
    // A name for the answer perhaps, the call, its arguments, and what it answers.
    private static final Pattern CALL = Pattern.compile(
            "(?:int (\\w+) = )?road\\.(\\w+)\\(([^)]*)\\); +// (-?[0-9]+|true|false)(?::.*)?");
    private static final String NEW = "BeastRoad road = new BeastRoad();";

    private final BeastRoad road = new BeastRoad();
    private final Map<String, Integer> names = new HashMap<>(Map.of("BeastRoad.NONE", BeastRoad.NONE));

    public static void main(String[] args) throws IOException, ReflectiveOperationException {
        String text = Files.readString(Path.of("README.md"));
        Matcher block = Pattern.compile("(?s)```java\n(.*?)```").matcher(text);
        int blocks = 0;
        while (block.find()) {
            new ReadmeTest().run(block.group(1).split("\n"));
            blocks++;
        }
        due.yes("there are calls; that", blocks > 0);
        for (Method method : BeastRoad.class.getDeclaredMethods()) {
            if (Modifier.isPublic(method.getModifiers())) {
                due.yes(method.getName() + " is named; that", text.contains("`" + method.getName() + "`"));
            }
        }
        due.end();
    }

    private void run(String[] lines) throws ReflectiveOperationException {
        due.yes("a block begins with a new object; that", lines[0].equals(NEW));
        for (int i = 1; i < lines.length; i++) {
            Matcher call = CALL.matcher(lines[i]);
            boolean read = call.matches();
            due.yes(lines[i] + " can be read; that", read);
            if (read) {
                make(call);
            }
        }
    }

    private void make(Matcher call) throws IllegalAccessException, InvocationTargetException {
        for (Method method : BeastRoad.class.getDeclaredMethods()) {
            if (method.getName().equals(call.group(2)) && Modifier.isPublic(method.getModifiers())) {
                Object answer = method.invoke(road, arguments(method, call.group(3)));
                due.yes(call.group() + " answered " + answer + "; that", call.group(4).equals(answer.toString()));
                if (call.group(1) != null) {
                    names.put(call.group(1), (Integer) answer);
                }
            }
        }
    }

    private Object[] arguments(Method method, String list) {
        Class<?>[] types = method.getParameterTypes();
        String[] parts = list.split(", ");
        Object[] values = new Object[types.length];
        for (int i = 0; i < types.length; i++) {
            values[i] = types[i] == boolean.class ? (Object) Boolean.valueOf(parts[i]) : number(parts[i]);
        }
        return values;
    }

    private Integer number(String text) {
        Integer named = names.get(text);
        return named != null ? named : Integer.decode(text);
    }
}
