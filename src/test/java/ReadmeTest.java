import java.io.IOException;
import java.lang.reflect.InvocationTargetException;
import java.lang.reflect.Method;
import java.nio.file.Files;
import java.nio.file.Path;
import java.util.Set;
import java.util.TreeSet;
import java.util.regex.Matcher;
import java.util.regex.Pattern;

/** Asks every call that README.md shows, in its order, on one object: each answers as the page says. */
final class ReadmeTest {
    private static final Pattern BLOCK = Pattern.compile("(?s)```java\n(.*?)```");
    private static final Pattern TEXT = Pattern.compile("String text = \"(.*)\";");
    private static final Pattern PUT_OF_TEXT = Pattern.compile(" +x\\.put\\(0, k, text\\.charAt\\(k\\)\\);");
    private static final Pattern CALL = Pattern.compile("x\\.(\\w+)\\(([-0-9, ]*)\\); +// (-?\\d+): .+");
    private static final int FEWEST_CALLS = 20;
    private static final Check check = new Check();
    private static final SeasonStreets x = new SeasonStreets();
    private static final Set<String> asked = new TreeSet<>();
    private static String text = "";

    public static void main(String[] args) throws IOException, IllegalAccessException, InvocationTargetException {
        Matcher block = BLOCK.matcher(Files.readString(Path.of("README.md")));
        check.due("a block of calls", block.find() ? 1 : 0, 1);
        for (String line : block.group(1).split("\n")) {
            follow(line);
        }
        check.due("many calls are shown", asked.size() >= FEWEST_CALLS ? 1 : 0, 1);
        check.end();
    }

    private static void follow(String line) throws IllegalAccessException, InvocationTargetException {
        Matcher told = TEXT.matcher(line);
        Matcher call = CALL.matcher(line.replace("text.length()", Integer.toString(text.length())));
        if (told.matches()) {
            text = told.group(1);
        } else if (PUT_OF_TEXT.matcher(line).matches()) {
            putText();
        } else if (call.matches()) {
            check.due(line, ask(call.group(1), call.group(2).split(", ")), Long.parseLong(call.group(3)));
        } else {
            check.due("a call without its answer: " + line, line.contains("x.") ? 1 : 0, 0);
        }
    }

    private static void putText() {
        for (int k = 0; k < text.length(); k++) {
            check.due("put of the text", x.put(0, k, text.charAt(k)), 1);
        }
    }

    private static long ask(String name, String[] numbers) throws IllegalAccessException, InvocationTargetException {
        for (Method method : SeasonStreets.class.getMethods()) {
            if (method.getName().equals(name)) {
                asked.add(name);
                Object[] arguments = new Object[method.getParameterCount()];
                for (int k = 0; k < arguments.length; k++) {
                    arguments[k] = Integer.valueOf(numbers[k]);
                }
                return ((Number) method.invoke(x, arguments)).longValue();
            }
        }
        return Long.MIN_VALUE;
    }
}
