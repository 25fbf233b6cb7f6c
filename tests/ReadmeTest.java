import java.io.IOException;
import java.lang.reflect.InvocationTargetException;
import java.lang.reflect.Method;
import java.nio.file.Files;
import java.nio.file.Path;
import java.util.HashMap;
import java.util.Map;
import java.util.regex.Matcher;
import java.util.regex.Pattern;

/** Does each row of README.md's example, and holds its answer against the one that stands behind it. */
public final class ReadmeTest {
    private static final Pattern PUT = Pattern.compile("put\\(estate, \"(.*)\"\\);.*");
    private static final Pattern ROW = Pattern.compile("(?:int (\\w+) = )?estate\\.(\\w+)\\((.*)\\);\\s*// (-?\\w+).*");

    private static final GreatEstate ESTATE = new GreatEstate();
    private static final Map<String, Object> NAMED = new HashMap<>(Map.of("true", true, "false", false));
    private static int rows = 0;

    public static void main(String[] args) throws IOException, IllegalAccessException {
        Path readme = Path.of("README.md");
        if (!Files.exists(readme)) {
            System.out.println("README.md is not here: run this where it is");
            System.exit(1);
        }
        boolean within = false;
        for (String line : Files.readAllLines(readme)) {
            within = line.startsWith("```") ? line.equals("```java") : within;
            if (within) {
                follow(line);
            }
        }
        Calls.due("the example has rows with answers", rows > 10, true);
        Calls.finish();
    }

    private static void follow(String line) throws IllegalAccessException {
        Matcher put = PUT.matcher(line);
        Matcher row = ROW.matcher(line);
        if (put.matches()) {
            Calls.tape(ESTATE, put.group(1));
        } else if (row.matches()) {
            rows++;
            String got = answer(row.group(2), row.group(3), row.group(1));
            Calls.dueSame(line, got, row.group(4));
        } else {
            Calls.due("a row that can be followed: " + line, line.startsWith("```") || line.contains("new GreatEstate()"), true);
        }
    }

    private static String answer(String name, String numbers, String kept) throws IllegalAccessException {
        for (Method method : GreatEstate.class.getMethods()) {
            if (method.getName().equals(name)) {
                try {
                    Object got = method.invoke(ESTATE, values(numbers));
                    NAMED.put(kept == null ? "" : kept, String.valueOf(got));
                    return String.valueOf(got);
                } catch (InvocationTargetException e) {
                    return e.getCause().getClass().getSimpleName();
                }
            }
        }
        return "no such call";
    }

    private static Object[] values(String numbers) {
        String[] parts = numbers.isEmpty() ? new String[0] : numbers.split(", ");
        Object[] all = new Object[parts.length];
        for (int i = 0; i < parts.length; i++) {
            Object named = NAMED.getOrDefault(parts[i], parts[i]);
            all[i] = named instanceof String number ? Integer.valueOf(number) : named;
        }
        return all;
    }
}
