import java.io.IOException;
import java.lang.reflect.InvocationTargetException;
import java.lang.reflect.Method;
import java.lang.reflect.Modifier;
import java.nio.file.Files;
import java.nio.file.Path;
import java.util.Arrays;
import java.util.HashMap;
import java.util.Map;
import java.util.regex.Matcher;
import java.util.regex.Pattern;

/** README.md: each call in its examples answers the number that stands behind it; it names every call. */
public final class ReadmeTest {

    private static final Pattern MAKES = Pattern.compile("CarriedHome x = new CarriedHome\\(\\);");
    private static final Pattern CALLS =
            Pattern.compile("(?:int (\\w+) = )?x\\.(\\w+)\\((.*)\\); +// (-?\\d+)(?::.*)?");
    private static final Pattern FEEDS =
            Pattern.compile("for \\(char c : \"([^\"]*)\"\\.toCharArray\\(\\)\\) x\\.feed\\(c\\);");

    private static final Map<String, Method> FACE = new HashMap<>();
    private static final Map<String, Integer> NAMED = new HashMap<>();
    private static CarriedHome x = new CarriedHome();
    private static int wrong = 0;
    private static int tried = 0;

    private static void fault(String what) {
        wrong++;
        System.out.println("README.md: " + what);
    }

    private static int valueOf(String argument) {
        return NAMED.containsKey(argument) ? NAMED.get(argument) : Integer.parseInt(argument);
    }

    private static long answer(String name, String arguments)
            throws IllegalAccessException, InvocationTargetException {
        String[] told = arguments.isEmpty() ? new String[0] : arguments.split(", ");
        Object[] values = Arrays.stream(told).map(ReadmeTest::valueOf).toArray();
        return ((Number) FACE.get(name).invoke(x, values)).longValue();
    }

    private static void follows(String line) throws IllegalAccessException, InvocationTargetException {
        Matcher call = CALLS.matcher(line);
        Matcher feed = FEEDS.matcher(line);
        if (MAKES.matcher(line).matches()) {
            x = new CarriedHome();
            NAMED.clear();
        } else if (feed.matches()) {
            for (char c : feed.group(1).toCharArray()) {
                x.feed(c);
            }
        } else if (call.matches() && FACE.containsKey(call.group(2))) {
            long got = answer(call.group(2), call.group(3));
            if (got != Long.parseLong(call.group(4))) {
                fault(line + " answered " + got);
            }
            if (call.group(1) != null) {
                NAMED.put(call.group(1), (int) got);
            }
            tried++;
        } else {
            fault("can't follow " + line);
        }
    }

    public static void main(String[] args)
            throws IOException, IllegalAccessException, InvocationTargetException {
        String text = Files.readString(Path.of("README.md"));
        for (Method m : CarriedHome.class.getDeclaredMethods()) {
            if (Modifier.isPublic(m.getModifiers())) {
                FACE.put(m.getName(), m);
                if (!text.contains("`" + m.getName())) {
                    fault("does not name " + m.getName());
                }
            }
        }
        Matcher example = Pattern.compile("(?s)```java\n(.*?)```").matcher(text);
        while (example.find()) {
            for (String line : example.group(1).split("\n")) {
                follows(line);
            }
        }
        if (tried < 30) {
            fault("has only " + tried + " calls");
        }
        System.out.println(wrong == 0 ? "the readme is so" : wrong + " lines of the readme are not so");
        if (wrong != 0) {
            System.exit(1);
        }
    }
}
