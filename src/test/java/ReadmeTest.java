import java.lang.reflect.Method;
import java.nio.charset.StandardCharsets;
import java.nio.file.Files;
import java.nio.file.Path;
import java.util.List;
import java.util.regex.Matcher;
import java.util.regex.Pattern;

/** The examples of README.md, read from it: each call answers what stands behind it. */
public final class ReadmeTest {
    private static final Pattern NEW = Pattern.compile("^ColdPanes panes = new ColdPanes\\(\\);.*");
    private static final Pattern TEXT = Pattern.compile("^for \\(char sign : \"([^\"]*)\"\\.toCharArray\\(\\)\\) \\{$");
    private static final Pattern CALL = Pattern.compile("^panes\\.(\\w+)\\(([^)]*)\\); +// (-?[0-9.]+): .+");

    private static ColdPanes panes = new ColdPanes();
    private static int calls = 0;

    public static void main(String[] arguments) throws Exception {
        List<String> lines = Files.readAllLines(Path.of("README.md"), StandardCharsets.UTF_8);
        boolean inExample = false;
        for (String line : lines) {
            if (line.startsWith("```")) {
                inExample = line.equals("```java");
            } else if (inExample) {
                follow(line);
            }
        }
        Check.dueTrue("README.md has examples", calls >= 10);
        Check.end();
    }

    private static void follow(String line) throws Exception {
        Matcher text = TEXT.matcher(line);
        Matcher call = CALL.matcher(line);
        if (NEW.matcher(line).matches()) {
            panes = new ColdPanes();
        } else if (text.matches()) {
            Check.write(panes, text.group(1));
        } else if (call.matches()) {
            calls++;
            String got = String.valueOf(answer(call.group(1), call.group(2)));
            Check.dueTrue(line + " (answered " + got + ")", got.equals(call.group(3)));
        } else {
            boolean ofTheLoop = line.equals("    panes.append(sign);") || line.equals("}");
            Check.dueTrue("a line that the test can follow: " + line, ofTheLoop);
        }
    }

    private static Object answer(String name, String list) throws Exception {
        String[] texts = list.isEmpty() ? new String[0] : list.split(", ");
        Object[] values = new Object[texts.length];
        Class<?>[] types = new Class<?>[texts.length];
        for (int at = 0; at < texts.length; at++) {
            values[at] = Integer.valueOf(texts[at]);
            types[at] = int.class;
        }
        Method method = ColdPanes.class.getMethod(name, types);
        return method.invoke(panes, values);
    }
}
