import java.io.IOException;
import java.lang.reflect.Method;
import java.lang.reflect.Modifier;
import java.nio.file.Files;
import java.nio.file.Path;
import java.util.regex.Matcher;
import java.util.regex.Pattern;

/** What README.md shows is so: each call of its example answers as told there, each call of the class is named. */
public final class ReadmeTest {
    private static final Pattern TEXT = Pattern.compile("for \\(char c : \"([^\"]*)\"");
    private static final Pattern CALL = Pattern.compile("(?m)^ward\\.(\\w+)\\(([-0-9, ]*)\\); +// (-?[0-9]+): ");

    public static void main(String[] args) throws IOException, ReflectiveOperationException {
        String readme = Files.readString(Path.of("README.md"));
        theExample(readme);
        theTable(readme);
        Checks.close();
    }

    private static void theExample(String readme) throws ReflectiveOperationException {
        Matcher text = TEXT.matcher(readme);
        Checks.due("a text is shown", text.find() ? 1 : 0, 1);
        TuneWard ward = new TuneWard();
        Checks.type(ward, text.group(1));
        Matcher shown = CALL.matcher(readme);
        int many = 0;
        while (shown.find()) {
            String[] values = shown.group(2).isEmpty() ? new String[0] : shown.group(2).split(", *");
            Checks.due(shown.group(), answer(ward, shown.group(1), values), Long.parseLong(shown.group(3)));
            many++;
        }
        int lines = readme.split("(?m)^ward\\.", -1).length - 1;
        Checks.due("calls that are shown with an answer", many, lines);
        Checks.due("some are shown", many > 10 ? 1 : 0, 1);
    }

    private static long answer(TuneWard ward, String name, String[] values) throws ReflectiveOperationException {
        Class<?>[] types = new Class<?>[values.length];
        Object[] numbers = new Object[values.length];
        for (int i = 0; i < values.length; i++) {
            types[i] = int.class;
            numbers[i] = Integer.valueOf(values[i]);
        }
        return ((Number) TuneWard.class.getMethod(name, types).invoke(ward, numbers)).longValue();
    }

    private static void theTable(String readme) {
        int at = readme.indexOf("### The calls");
        String table = at < 0 ? "" : readme.substring(at, readme.indexOf("\n## ", at));
        for (Method m : TuneWard.class.getDeclaredMethods()) {
            if (Modifier.isPublic(m.getModifiers())) {
                Checks.due("in the table: " + m.getName(), table.contains("`" + m.getName() + "`") ? 1 : 0, 1);
            }
        }
    }
}
