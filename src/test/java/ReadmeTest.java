import java.io.IOException;
import java.lang.reflect.Method;
import java.nio.file.Files;
import java.nio.file.Path;
import java.util.List;
import java.util.regex.Matcher;
import java.util.regex.Pattern;

/** Makes the calls of the example in README.md, and compares their answers with those told beside them. */
public final class ReadmeTest extends Checks {
    private static final String FIRST = "LinkMill mill = new LinkMill();";
    private static final Pattern LINE = Pattern.compile("mill\\.(\\w+)\\((.*)\\);\\s*(?://\\s*(.*))?");
    /** A remark that begins with a number tells the answer. */
    private static final Pattern ANSWER = Pattern.compile("(-?\\d+)\\b.*");

    private static int answersTold = 0;

    public static void main(String[] args) throws IOException, ReflectiveOperationException {
        List<String> lines = Files.readAllLines(Path.of("README.md"));
        int from = lines.indexOf("```java") + 1;
        topic = "README.md";
        check("the example's first line", from > 0 && lines.get(from).equals(FIRST), lines.get(from), FIRST);
        LinkMill mill = new LinkMill();
        for (int i = from + 1; !lines.get(i).equals("```"); i++) {
            if (!lines.get(i).isBlank()) {
                compare(mill, lines.get(i));
            }
        }
        check("the number of answers told", answersTold >= 4, answersTold, "4 or more");
        end();
    }

    private static void compare(LinkMill mill, String line) throws ReflectiveOperationException {
        Matcher call = LINE.matcher(line);
        boolean isCall = call.matches();
        check(line, isCall, "no call", "a call");
        if (!isCall) {
            return;
        }
        Object got = made(mill, call.group(1), call.group(2));
        Matcher answer = ANSWER.matcher(call.group(3) == null ? "" : call.group(3));
        if (answer.matches()) {
            answersTold++;
            check(line, answer.group(1).equals(got.toString()), got, answer.group(1));
        }
    }

    private static Object made(LinkMill mill, String name, String list) throws ReflectiveOperationException {
        String[] texts = list.isEmpty() ? new String[0] : list.split(", ");
        Object[] values = new Object[texts.length];
        for (int i = 0; i < texts.length; i++) {
            boolean isNumber = texts[i].matches("-?\\d+");
            values[i] = isNumber ? (Object) Integer.valueOf(texts[i]) : Boolean.valueOf(texts[i]);
        }
        for (Method m : LinkMill.class.getMethods()) {
            if (m.getName().equals(name)) {
                return m.invoke(mill, values);
            }
        }
        throw new NoSuchMethodException(name);
    }
}
