import java.lang.reflect.InvocationTargetException;
import java.lang.reflect.Method;
import java.lang.reflect.Modifier;
import java.nio.file.Files;
import java.nio.file.Path;
import java.util.TreeSet;
import java.util.regex.Matcher;
import java.util.regex.Pattern;

/** The calls that README.md shows answer what it says; it is read where .ci/run starts the tests. */
public final class ReadmeTest {
    private static final Pattern CALL = Pattern.compile("log\\.(\\w+)\\(([^)]*)\\);(?: +// (.+))?");
    private static final Pattern ANSWER = Pattern.compile("(-?\\d+|true|false|throws \\w+)(?:: .+)?");

    private final Check check = new Check();
    private final TreeSet<String> shown = new TreeSet<>();
    private ShippedLog log;

    public static void main(String[] args) throws Exception {
        ReadmeTest test = new ReadmeTest();
        boolean isCode = false;
        for (String line : Files.readAllLines(Path.of("README.md"))) {
            if (line.startsWith("```")) {
                isCode = line.equals("```java");
            } else if (isCode) {
                test.oneLine(line);
            }
        }
        test.everyCallIsShown();
        test.check.end();
    }

    private void oneLine(String line) throws Exception {
        if (line.equals("ShippedLog log = new ShippedLog();")) {
            log = new ShippedLog();
            return;
        }
        Matcher call = CALL.matcher(line);
        if (!call.matches()) {
            check.report("README.md has a line that is no call: " + line);
            return;
        }
        shown.add(call.group(1));
        String got = answer(call.group(1), call.group(2).split(", "));
        String due = answerTold(call.group(3));
        if (!got.equals(due)) {
            check.report("README.md: " + line + " answered " + got);
        }
    }

    /** A call without an answer is told without one. */
    private static String answerTold(String comment) {
        if (comment == null) {
            return "null";
        }
        Matcher answer = ANSWER.matcher(comment);
        return answer.matches() ? answer.group(1) : "no answer in: " + comment;
    }

    private String answer(String name, String[] texts) throws Exception {
        Class<?>[] types = new Class<?>[texts.length];
        Object[] numbers = new Object[texts.length];
        for (int i = 0; i < texts.length; i++) {
            types[i] = int.class;
            numbers[i] = texts[i].equals("ShippedLog.NONE") ? ShippedLog.NONE : Integer.parseInt(texts[i]);
        }
        try {
            return String.valueOf(ShippedLog.class.getMethod(name, types).invoke(log, numbers));
        } catch (InvocationTargetException e) {
            return "throws " + e.getCause().getClass().getSimpleName();
        }
    }

    private void everyCallIsShown() {
        for (Method method : ShippedLog.class.getDeclaredMethods()) {
            boolean isOpen = Modifier.isPublic(method.getModifiers());
            if (isOpen && !shown.contains(method.getName())) {
                check.report("README.md does not show " + method.getName());
            }
        }
    }
}
