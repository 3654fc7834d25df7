import java.io.IOException;
import java.lang.reflect.InvocationTargetException;
import java.lang.reflect.Method;
import java.lang.reflect.Modifier;
import java.nio.file.Files;
import java.nio.file.Path;
import java.util.regex.Matcher;
import java.util.regex.Pattern;

/** README.md: its examples answer as they say, and it names every call of the face. */
public final class ReadmeTest {
    private static final Check CHECK = new Check("ReadmeTest");
    private static final Pattern EXAMPLE = Pattern.compile("(?m)^x\\.(\\w+)\\(([^)]*)\\); +// (true|false|-?\\d+)");

    public static void main(String[] args) throws IOException, ReflectiveOperationException {
        String text = Files.readString(Path.of("README.md"));
        namesEveryCall(text);
        WristPort x = new WristPort();
        CHECK.due("the PORT of README.md", Check.port(x, block(text, "port")), 0);
        CHECK.due("the DAY of README.md", Check.day(x, block(text, "day")), 0);
        int examples = 0;
        Matcher m = EXAMPLE.matcher(text);
        while (m.find()) {
            examples++;
            CHECK.due(m.group(), answer(x, m.group(1), m.group(2)), number(m.group(3)));
        }
        CHECK.due("examples stand there", examples >= 20, true);
        CHECK.due("each with its answer", examples, text.split("\nx\\.", -1).length - 1);
        CHECK.end();
    }

    private static void namesEveryCall(String text) {
        for (Method m : WristPort.class.getDeclaredMethods()) {
            if (Modifier.isPublic(m.getModifiers())) {
                Matcher row = Pattern.compile("`" + m.getName() + "\\(([^)]*)\\)`").matcher(text);
                CHECK.due(m.getName() + " is named", row.find(), true);
                row.reset();
                int told = row.find() && !row.group(1).isEmpty() ? row.group(1).split(",").length : 0;
                CHECK.due(m.getName() + " with its arguments", told, m.getParameterCount());
            }
        }
    }

    private static String block(String text, String kind) {
        String open = "```" + kind + "\n";
        int from = text.indexOf(open);
        int to = from < 0 ? -1 : text.indexOf("```", from + open.length());
        return to < 0 ? "there is none" : text.substring(from + open.length(), to);
    }

    private static long number(String told) {
        return told.equals("true") ? 1 : told.equals("false") ? 0 : Long.parseLong(told);
    }

    private static long answer(WristPort x, String name, String told) throws ReflectiveOperationException {
        String[] parts = told.isEmpty() ? new String[0] : told.split(", *");
        for (Method m : WristPort.class.getDeclaredMethods()) {
            if (m.getName().equals(name) && m.getParameterCount() == parts.length) {
                Object[] values = new Object[parts.length];
                for (int i = 0; i < parts.length; i++) {
                    Class<?> type = m.getParameterTypes()[i];
                    values[i] = type == boolean.class ? (Object) Boolean.valueOf(parts[i]) : Integer.valueOf(parts[i]);
                }
                return invoked(m, x, values);
            }
        }
        throw new NoSuchMethodException(name);
    }

    private static long invoked(Method m, WristPort x, Object[] values) throws ReflectiveOperationException {
        try {
            return number(m.invoke(x, values).toString());
        } catch (InvocationTargetException e) {
            throw new IllegalStateException(m.getName() + " threw", e.getCause());
        }
    }
}
