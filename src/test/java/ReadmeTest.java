import java.io.IOException;
import java.lang.reflect.InvocationTargetException;
import java.lang.reflect.Method;
import java.nio.file.Files;
import java.nio.file.Path;
import java.util.HashSet;
import java.util.List;
import java.util.Set;
import java.util.regex.Matcher;
import java.util.regex.Pattern;

/** README.md's example, call by call: each answers what stands there behind '->'. */
final class ReadmeTest {
    private static final Pattern CALL = Pattern.compile("x\\.(\\w+)\\(([^)]*)\\);");
    private static final Pattern DUE = Pattern.compile("-> (\\S+)$");

    public static void main(String[] args) throws IOException {
        Check check = new Check();
        ForestHouse x = new ForestHouse();
        Set<String> used = new HashSet<>();
        for (String line : example()) {
            String answer = "";
            Matcher call = CALL.matcher(line);
            while (call.find()) {
                used.add(call.group(1));
                answer = answer(x, call.group(1), numbers(call.group(2)));
            }
            Matcher due = DUE.matcher(line);
            if (!answer.isEmpty()) {
                check.same(line, due.find() ? due.group(1) : "nothing", answer);
            }
        }
        for (Method method : ForestHouse.class.getMethods()) {
            if (method.getDeclaringClass() == ForestHouse.class) {
                check.same("a call of " + method.getName(), "true", Boolean.toString(used.contains(method.getName())));
            }
        }
        check.end();
    }

    private static List<String> example() throws IOException {
        String all = Files.readString(Path.of("README.md"));
        int begin = all.indexOf("```java");
        int end = all.indexOf("```", begin + 3);
        return begin < 0 || end < 0 ? List.of() : all.substring(begin, end).lines().toList();
    }

    private static Object[] numbers(String written) {
        String[] parts = written.isEmpty() ? new String[0] : written.split(", ");
        Object[] numbers = new Object[parts.length];
        for (int i = 0; i < parts.length; i++) {
            numbers[i] = parts[i].equals("ForestHouse.NONE") ? ForestHouse.NONE : Integer.parseInt(parts[i]);
        }
        return numbers;
    }

    private static String answer(ForestHouse x, String name, Object[] numbers) {
        for (Method method : ForestHouse.class.getMethods()) {
            if (method.getName().equals(name) && method.getParameterCount() == numbers.length) {
                try {
                    Object got = method.invoke(x, numbers);
                    return got == null ? "nothing" : got.toString();
                } catch (InvocationTargetException e) {
                    return e.getCause().getClass().getSimpleName();
                } catch (IllegalAccessException e) {
                    return "no access";
                }
            }
        }
        return "no such call";
    }
}
