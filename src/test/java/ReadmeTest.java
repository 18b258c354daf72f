import java.io.IOException;
import java.lang.reflect.Method;
import java.lang.reflect.Modifier;
import java.nio.file.Files;
import java.nio.file.Path;
import java.util.List;
import java.util.regex.Matcher;
import java.util.regex.Pattern;

/** README.md tells how to use the class: what it says that calls answer is so, and it names every call and every test. */
final class ReadmeTest {
    private static final Due due = new Due("ReadmeTest");
    private static final Pattern CALL = Pattern.compile("town\\.(\\w+)\\((.*)\\); +// (-?\\w+): .*");

    public static void main(String[] args) throws IOException, ReflectiveOperationException {
        String readme = Files.readString(Path.of("README.md"));
        callsAnswerSo(readme);
        namesEveryCall(readme);
        namesEveryTest(readme);
        due.end();
    }

    private static void callsAnswerSo(String readme) throws ReflectiveOperationException {
        SkinInRafters town = new SkinInRafters();
        int calls = 0;
        for (String line : readme.lines().filter(l -> l.startsWith("town.")).toList()) {
            Matcher m = CALL.matcher(line);
            due.is("a call and its answer: " + line, m.matches() ? 1 : 0, 1);
            if (m.matches()) {
                due.is(line, answer(town, m.group(1), m.group(2)), number(m.group(3)));
                calls++;
            }
        }
        due.is("README.md shows calls", calls > 0 ? 1 : 0, 1);
    }

    private static int answer(SkinInRafters town, String name, String numbers) throws ReflectiveOperationException {
        Method method = face().stream().filter(m -> m.getName().equals(name)).findFirst().orElseThrow();
        String[] told = numbers.isEmpty() ? new String[0] : numbers.split(", ");
        Object[] values = new Object[told.length];
        for (int k = 0; k < told.length; k++) {
            values[k] = value(method.getParameterTypes()[k], told[k]);
        }
        return (int) method.invoke(town, values);
    }

    private static Object value(Class<?> type, String told) {
        if (type == boolean.class) {
            return told.equals("true");
        }
        long v = Long.decode(told.replace("L", ""));
        if (type == long.class) {
            return v;
        }
        return Math.toIntExact(v);
    }

    private static int number(String told) throws ReflectiveOperationException {
        boolean name = Character.isUpperCase(told.charAt(0));
        return name ? SkinInRafters.class.getField(told).getInt(null) : Integer.parseInt(told);
    }

    private static void namesEveryCall(String readme) {
        for (Method m : face()) {
            Matcher named = Pattern.compile("\\| .*`" + m.getName() + "\\(([^)]*)\\)`").matcher(readme);
            boolean found = named.find();
            due.is("README.md names " + m.getName(), found ? 1 : 0, 1);
            if (found) {
                int told = named.group(1).isEmpty() ? 0 : named.group(1).split(", ").length;
                due.is("what README.md tells " + m.getName() + " takes", told, m.getParameterCount());
            }
        }
    }

    private static void namesEveryTest(String readme) throws IOException {
        try (var files = Files.list(Path.of("src/test/java"))) {
            for (String file : files.map(f -> f.getFileName().toString()).filter(f -> f.endsWith("Test.java")).toList()) {
                String name = file.replace(".java", "");
                due.is("README.md names " + name, Pattern.compile("\\b" + name + "`").matcher(readme).find() ? 1 : 0, 1);
            }
        }
    }

    private static List<Method> face() {
        return List.of(SkinInRafters.class.getDeclaredMethods()).stream().filter(m -> Modifier.isPublic(m.getModifiers())).toList();
    }
}
