import java.io.IOException;
import java.lang.reflect.Method;
import java.nio.file.Files;
import java.nio.file.Path;
import java.util.regex.Matcher;
import java.util.regex.Pattern;

/** The calls that README.md shows, in their order, with the answers that it tells. */
public final class ReadmeTests extends Checks {
    private static final Pattern NEW = Pattern.compile("GlossaryLinker x = new GlossaryLinker\\(\\);");
    private static final Pattern CALL = Pattern.compile("x\\.(\\w+)\\((.*)\\); +// (-?\\d+)(: .*)?");
    private static final int FEWEST_CALLS = 30;

    public static void main(String[] args) throws IOException, ReflectiveOperationException {
        sentence("README.md");
        GlossaryLinker x = null;
        boolean inCode = false;
        int calls = 0;
        for (String line : Files.readAllLines(Path.of("README.md"))) {
            if (line.startsWith("```")) {
                inCode = line.equals("```java");
            } else if (inCode && NEW.matcher(line).matches()) {
                x = new GlossaryLinker();
            } else if (inCode) {
                calls += isAnswered(x, line) ? 1 : 0;
            }
        }
        due("enough calls are shown", calls >= FEWEST_CALLS ? 1 : 0, 1);
        end("the calls of README.md answer as it tells");
    }

    private static boolean isAnswered(GlossaryLinker x, String line) throws ReflectiveOperationException {
        Matcher call = CALL.matcher(line);
        boolean readable = x != null && call.matches();
        due("a line with a call: " + line, readable ? 1 : 0, 1);
        if (readable) {
            due(line, answer(x, call.group(1), call.group(2)), Integer.parseInt(call.group(3)));
        }
        return readable;
    }

    private static int answer(GlossaryLinker x, String name, String texts) throws ReflectiveOperationException {
        String[] given = texts.isEmpty() ? new String[0] : texts.split(", ");
        Class<?>[] types = new Class<?>[given.length];
        Object[] values = new Object[given.length];
        for (int k = 0; k < given.length; k++) {
            types[k] = int.class;
            values[k] = given[k].startsWith("'") ? (int) given[k].charAt(1) : Integer.parseInt(given[k]);
        }
        Method method = GlossaryLinker.class.getMethod(name, types);
        return (Integer) method.invoke(x, values);
    }
}
