import java.io.IOException;
import java.lang.reflect.InvocationTargetException;
import java.lang.reflect.Method;
import java.nio.file.Files;
import java.nio.file.Path;
import java.util.regex.Matcher;
import java.util.regex.Pattern;

/** The example of README.md: each line is called as it stands there, and answers what its comment says. */
public final class ReadmeTest {
    private static final Checks CHECKS = new Checks();
    private static final Pattern CALL = Pattern.compile("book\\.(\\w+)\\((.*?)\\);\\s*(?://\\s*(.*))?");
    /** A comment that begins otherwise tells no answer. */
    private static final Pattern ANSWER = Pattern.compile("(-?\\d+|NONE|BAD|true|false)(?:[:,].*)?");

    public static void main(String[] args) throws IOException, ReflectiveOperationException {
        CHECKS.sentence("README.md, the example");
        MethodBook book = new MethodBook();
        boolean inside = false;
        for (String line : Files.readAllLines(Path.of("README.md"))) {
            if (line.startsWith("```")) {
                inside = line.equals("```java");
            } else if (inside && !line.isBlank() && !line.contains("new MethodBook()")) {
                check(book, line);
            }
        }
        CHECKS.end();
    }

    private static void check(MethodBook book, String line) throws ReflectiveOperationException {
        Matcher call = CALL.matcher(line);
        boolean isCall = call.matches();
        CHECKS.due("a line that is a call: " + line, isCall, true);
        if (isCall) {
            String got = answer(book, call.group(1), call.group(2));
            Matcher answer = ANSWER.matcher(call.group(3) == null ? "" : call.group(3));
            if (answer.matches()) {
                CHECKS.due(line, got, answer.group(1));
            } else {
                CHECKS.due("no refusal: " + line, got, "true");
            }
        }
    }

    private static String answer(MethodBook book, String name, String words) throws ReflectiveOperationException {
        for (Method method : MethodBook.class.getMethods()) {
            if (method.getName().equals(name)) {
                return wordFor(called(book, method, words));
            }
        }
        return "no method " + name;
    }

    private static Object called(MethodBook book, Method method, String words)
            throws IllegalAccessException, InvocationTargetException {
        String[] parts = words.isBlank() ? new String[0] : words.split(",");
        Object[] arguments = new Object[parts.length];
        for (int i = 0; i < parts.length; i++) {
            String part = parts[i].strip();
            boolean isTruth = part.equals("true") || part.equals("false");
            arguments[i] = isTruth ? (Object) part.equals("true") : (Object) number(part);
        }
        return method.invoke(book, arguments);
    }

    /** "2 * 5 + 1", "2 * 3" or "7". */
    private static int number(String words) {
        int sum = 0;
        for (String summand : words.split("\\+")) {
            int product = 1;
            for (String factor : summand.split("\\*")) {
                product *= Integer.parseInt(factor.strip());
            }
            sum += product;
        }
        return sum;
    }

    private static String wordFor(Object answer) {
        if (answer.equals(MethodBook.NONE)) {
            return "NONE";
        }
        return answer.equals(MethodBook.BAD) ? "BAD" : answer.toString();
    }
}
