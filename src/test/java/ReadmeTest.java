import java.io.IOException;
import java.lang.reflect.Method;
import java.nio.file.Files;
import java.nio.file.Path;
import java.util.Set;
import java.util.TreeSet;
import java.util.regex.Matcher;
import java.util.regex.Pattern;

/** The calls that README.md tells, on one new object, with the answers that it tells; and its table of calls. */
public final class ReadmeTest {
    private static final Pattern CALL = Pattern.compile("council\\.(\\w+)\\((.*)\\); +// (-?\\d+)(:.*)?");
    private static final Pattern ROW = Pattern.compile("\\| .* \\| `([a-zA-Z ]+)` \\| [0-9a-z, ]+ \\|");

    private static final Check c = new Check("ReadmeTest");

    public static void main(String[] args) throws IOException, ReflectiveOperationException {
        AdvertCouncil council = new AdvertCouncil();
        Set<String> named = new TreeSet<>();
        for (String line : Files.readAllLines(Path.of("README.md"))) {
            if (line.startsWith("council.")) {
                call(council, line);
            }
            Matcher row = ROW.matcher(line);
            if (row.matches()) {
                named.addAll(Set.of(row.group(1).split(" ")));
            }
        }
        Set<String> due = new TreeSet<>();
        for (Method method : AdvertCouncil.class.getMethods()) {
            if (method.getDeclaringClass() == AdvertCouncil.class) {
                due.add(method.getName());
            }
        }
        c.due("the table names each call " + named, named.equals(due) ? 1 : 0, 1);
        c.end();
    }

    private static void call(AdvertCouncil council, String line) throws ReflectiveOperationException {
        Matcher told = CALL.matcher(line);
        c.due("a call with its answer: " + line, told.matches() ? 1 : 0, 1);
        if (told.matches()) {
            String[] texts = told.group(2).isEmpty() ? new String[0] : told.group(2).split(", ");
            Method method = methodOf(told.group(1));
            Object[] values = new Object[texts.length];
            for (int i = 0; i < texts.length; i++) {
                values[i] = valueOf(texts[i], method.getParameterTypes()[i]);
            }
            long answer = ((Number) method.invoke(council, values)).longValue();
            c.due(line, answer, Long.parseLong(told.group(3)));
        }
    }

    private static Method methodOf(String name) {
        for (Method method : AdvertCouncil.class.getMethods()) {
            if (method.getName().equals(name)) {
                return method;
            }
        }
        throw new IllegalStateException("no such call: " + name);
    }

    private static Object valueOf(String text, Class<?> type) {
        if (type == boolean.class) {
            return Boolean.valueOf(text);
        }
        long value = text.startsWith("'") ? text.charAt(1) : Long.parseLong(text);
        if (type == long.class) {
            return value;
        }
        return (int) value;
    }
}
