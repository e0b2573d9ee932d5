import java.nio.file.Files;
import java.nio.file.Path;
import java.util.regex.Matcher;
import java.util.regex.Pattern;

/** The example of README.md answers what its remarks say. */
public final class ReadmeTest {
    private static final Pattern CALL = Pattern.compile("x\\.(\\w+)\\(([^)]*)\\);\\s+// (-?\\d+)");
    private static final Pattern TEXT = Pattern.compile("\"([^\"]*)\"\\.toCharArray");
    private static final Pattern LINE = Pattern.compile("the answer is \"([^\"]*)\"");

    public static void main(String[] args) throws Exception {
        String readme = Files.readString(Path.of("README.md"));
        int start = readme.indexOf("```java\n");
        int end = readme.indexOf("```\n", start + 1);
        RoadDepots x = new RoadDepots();
        int calls = 0;
        int lines = 0;
        for (String row : readme.substring(start, end).split("\n")) {
            Matcher text = TEXT.matcher(row);
            if (text.find()) {
                Check.type(x, text.group(1));
            }
            Matcher call = CALL.matcher(row);
            if (call.find()) {
                calls++;
                Check.due(row.trim(), call(x, call.group(1), call.group(2)), Long.parseLong(call.group(3)));
            }
            Matcher line = LINE.matcher(row);
            if (line.find()) {
                lines++;
                Check.dueText(row.trim(), Check.line(x), line.group(1));
            }
        }
        Check.due("calls were found", calls > 0 ? 1 : 0, 1);
        Check.due("an answer was found", lines > 0 ? 1 : 0, 1);
        Check.end();
    }

    private static long call(RoadDepots x, String name, String numbers) throws Exception {
        String[] words = numbers.isEmpty() ? new String[0] : numbers.split(", ");
        Object[] values = new Object[words.length];
        Class<?>[] types = new Class<?>[words.length];
        for (int i = 0; i < words.length; i++) {
            values[i] = words[i].equals("RoadDepots.NONE") ? RoadDepots.NONE : Integer.parseInt(words[i]);
            types[i] = int.class;
        }
        return ((Number) RoadDepots.class.getMethod(name, types).invoke(x, values)).longValue();
    }
}
