import java.io.IOException;
import java.lang.reflect.InvocationTargetException;
import java.lang.reflect.Method;
import java.lang.reflect.Modifier;
import java.nio.file.Files;
import java.nio.file.Path;
import java.util.ArrayList;
import java.util.List;
import java.util.regex.Matcher;
import java.util.regex.Pattern;

/** README.md names each method with its parameters and exceptions, and its examples answer as they say. */
public final class ReadmeTest {
    private static final Checks checks = new Checks();
    private static final Pattern EXAMPLE = Pattern.compile("office\\.(\\w+)\\(([^)]*)\\); +// (.*)");
    private static final Pattern EXCEPTION = Pattern.compile("`(\\w+Exception)`");

    public static void main(String[] args) throws IOException {
        List<String> lines = Files.readAllLines(Path.of("README.md"));
        for (Method method : Degreewall.class.getDeclaredMethods()) {
            if (Modifier.isPublic(method.getModifiers())) {
                namedOnce(method, lines);
            }
        }
        int examples = examplesHold(lines);
        checks.same("examples of README.md found", String.valueOf(examples > 60), "true");
        checks.end();
    }

    private static void namedOnce(Method method, List<String> lines) {
        List<String> rows = new ArrayList<>();
        for (String line : lines) {
            if (line.startsWith("| `" + method.getName() + "(")) {
                rows.add(line);
            }
        }
        checks.same("rows of " + method.getName(), String.valueOf(rows.size()), "1");
        for (String row : rows) {
            String parameters = row.substring(row.indexOf('(') + 1, row.indexOf(')'));
            int count = parameters.isEmpty() ? 0 : parameters.split(", ").length;
            checks.same("parameters of " + method.getName(), String.valueOf(count),
                    String.valueOf(method.getParameterCount()));
            List<String> named = new ArrayList<>();
            for (Matcher found = EXCEPTION.matcher(row); found.find();) {
                named.add(found.group(1));
            }
            List<String> thrown = new ArrayList<>();
            for (Class<?> type : method.getExceptionTypes()) {
                thrown.add(type.getSimpleName());
            }
            checks.same("exceptions of " + method.getName(), named.toString(), thrown.toString());
        }
    }

    private static int examplesHold(List<String> lines) {
        Degreewall office = new Degreewall();
        int examples = 0;
        for (String line : lines) {
            if (line.startsWith("Degreewall office = ")) {
                office = new Degreewall();
            } else if (line.startsWith("office.")) {
                Matcher call = EXAMPLE.matcher(line);
                checks.same("can be read: " + line, String.valueOf(call.matches()), "true");
                if (call.matches()) {
                    String due = call.group(3).split(": ")[0];
                    checks.same("README.md: " + line, answerOf(office, call.group(1), call.group(2)), due);
                    examples++;
                }
            }
        }
        return examples;
    }

    private static String answerOf(Degreewall office, String name, String arguments) {
        String[] texts = arguments.isEmpty() ? new String[0] : arguments.split(", ");
        for (Method method : Degreewall.class.getDeclaredMethods()) {
            if (method.getName().equals(name)) {
                Object[] values = new Object[texts.length];
                for (int k = 0; k < texts.length; k++) {
                    boolean yesOrNo = method.getParameterTypes()[k] == boolean.class;
                    values[k] = yesOrNo ? (Object) Boolean.valueOf(texts[k]) : (Object) Integer.valueOf(texts[k]);
                }
                return answerOf(office, method, values);
            }
        }
        return "no such method";
    }

    private static String answerOf(Degreewall office, Method method, Object[] values) {
        try {
            return String.valueOf(method.invoke(office, values));
        } catch (InvocationTargetException e) {
            return "throws " + e.getCause().getClass().getSimpleName();
        } catch (IllegalAccessException e) {
            return "no access";
        }
    }
}
