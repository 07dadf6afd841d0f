import java.io.File;
import java.lang.reflect.Method;
import java.lang.reflect.Modifier;
import java.nio.file.Files;
import java.nio.file.Path;
import java.util.regex.Matcher;
import java.util.regex.Pattern;

/** The example of README.md answers what stands there, and README.md names each call and each test. */
public final class ReadmeTest {
    private static final Pattern CALL = Pattern.compile("x\\.(\\w+)\\(([-\\d, ]*)\\); +// (-?[\\d.]+)(:.*)?");
    private static final Pattern TEXT = Pattern.compile("for \\(char c : \"([^\"]*)\"\\.toCharArray\\(\\)\\) \\{");

    private ReadmeTest() {
    }

    public static void main(String[] args) throws Exception {
        String page = Files.readString(Path.of("README.md"));
        theExample(between(page, "```java\n", "```"));
        for (Method method : BoardMetronomes.class.getDeclaredMethods()) {
            boolean isPublic = Modifier.isPublic(method.getModifiers());
            Check.dueTrue("README.md names " + method, !isPublic || page.contains("`" + method.getName() + "`"));
        }
        for (File file : new File("src/test/java").listFiles()) {
            String name = file.getName().replace(".java", "");
            Check.dueTrue("README.md names " + name, !name.endsWith("Test") || page.contains("| `" + name + "` |"));
        }
        Check.finish("ReadmeTest");
    }

    private static String between(String page, String before, String behind) {
        int from = page.indexOf(before) + before.length();
        return page.substring(from, page.indexOf(behind, from));
    }

    private static void theExample(String example) throws Exception {
        BoardMetronomes x = new BoardMetronomes();
        int calls = 0;
        for (String line : example.split("\n")) {
            Matcher call = CALL.matcher(line);
            Matcher text = TEXT.matcher(line);
            if (call.matches()) {
                String answer = called(x, call.group(1), call.group(2));
                Check.dueTrue(line + " is due, it answered " + answer, answer.equals(call.group(3)));
                calls++;
            } else if (text.matches()) {
                Check.type(x, text.group(1));
            } else {
                Check.dueTrue("a line that can be read: " + line, line.equals("    x.append(c);")
                    || line.equals("}") || line.equals("BoardMetronomes x = new BoardMetronomes();"));
            }
        }
        Check.dueTrue("the example has calls", calls > 0);
    }

    private static String called(BoardMetronomes x, String name, String told) throws Exception {
        String[] parts = told.isEmpty() ? new String[0] : told.split(", *");
        Class<?>[] types = new Class<?>[parts.length];
        Object[] values = new Object[parts.length];
        for (int i = 0; i < parts.length; i++) {
            types[i] = int.class;
            values[i] = Integer.valueOf(parts[i]);
        }
        return String.valueOf(BoardMetronomes.class.getMethod(name, types).invoke(x, values));
    }
}
