import java.io.IOException;
import java.lang.reflect.InvocationTargetException;
import java.lang.reflect.Method;
import java.lang.reflect.Modifier;
import java.nio.file.Files;
import java.nio.file.Path;
import java.util.regex.Matcher;
import java.util.regex.Pattern;

/** README.md tells the truth: its example answers as it says, and its tables have every call. */
public final class ReadmeTest {
    private static final Pattern CALL = Pattern.compile("(?m)^book\\.(\\w+)\\(([^)]*)\\);\\s*// (-?\\w+)");
    private static int wrong = 0;

    public static void main(String[] args) throws IOException, IllegalAccessException, InvocationTargetException {
        String readme = Files.readString(Path.of("README.md"));
        runExample(readme);
        lookAtTables(readme);
        System.out.println(wrong == 0 ? "README.md is as due" : wrong + " faults of README.md");
        if (wrong != 0) System.exit(1);
    }

    private static void need(boolean held, String what) {
        if (!held) { wrong++; System.out.println(what); }
    }

    private static void runExample(String readme) throws IllegalAccessException, InvocationTargetException {
        EdgeNotes book = new EdgeNotes();
        int calls = 0;
        Matcher row = CALL.matcher(readme);
        while (row.find()) {
            String[] numbers = row.group(2).isEmpty() ? new String[0] : row.group(2).split(", ");
            Method method = find(row.group(1), numbers.length);
            if (method == null) {
                need(false, "there is no call " + row.group());
                continue;
            }
            Object[] given = new Object[numbers.length];
            for (int i = 0; i < given.length; i++) {
                boolean flag = method.getParameterTypes()[i] == boolean.class;
                given[i] = flag ? (Object) Boolean.valueOf(numbers[i]) : (Object) Integer.valueOf(numbers[i]);
            }
            String answer = method.invoke(book, given).toString();
            need(answer.equals(row.group(3)), row.group() + ": it answered " + answer);
            calls++;
        }
        long rows = readme.lines().filter(line -> line.startsWith("book.")).count();
        need(calls == rows && rows > 20, "only " + calls + " of the example's " + rows + " rows have an answer");
    }

    private static Method find(String name, int numbers) {
        for (Method method : EdgeNotes.class.getDeclaredMethods())
            if (method.getName().equals(name) && method.getParameterCount() == numbers) return method;
        return null;
    }

    private static void lookAtTables(String readme) {
        for (Method method : EdgeNotes.class.getDeclaredMethods()) {
            if (!Modifier.isPublic(method.getModifiers())) continue;
            String words = method.getParameterCount() == 0 ? "" : "\\w+(, \\w+){" + (method.getParameterCount() - 1) + "}";
            Pattern row = Pattern.compile("(?m)^\\|.*`" + method.getName() + "\\(" + words + "\\)`.*\\|.*\\|$");
            need(row.matcher(readme).find(), "no table has " + method.getName());
        }
        for (int status = 0; status <= 8; status++)
            need(Pattern.compile("(?m)^\\| " + status + " \\| \\w").matcher(readme).find(), "no table has STATUS " + status);
    }
}
