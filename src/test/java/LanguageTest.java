import java.io.IOException;
import java.lang.reflect.Member;
import java.lang.reflect.Modifier;
import java.nio.file.Files;
import java.nio.file.Path;
import java.util.List;
import java.util.Set;
import java.util.TreeSet;
import java.util.regex.Matcher;
import java.util.regex.Pattern;

/** The face of the document, and what LANGUAGE.md leaves out of the class, by its text. */
final class LanguageTest {
    private static final Path SOURCE = Path.of("src/main/java/SeasonStreets.java");
    private static final Set<String> METHODS = Set.of("city", "ofStreet", "ofPlant", "let", "corner", "route",
        "quickest", "mild", "best", "reading", "back", "seasons", "kinds", "wishes", "odds", "sheet", "lose", "put",
        "cell", "copy", "tell", "label", "as", "trace", "fault", "many");
    private static final Set<String> CONSTANTS = Set.of("UNKNOWN", "OUTSIDE", "STATE", "FULL", "NONE", "LOST");
    private static final List<String> LEFT_OUT = List.of("\\bthrow", "\\btry\\b", "\\bcatch\\b", "\\bassert\\b",
        "\\bsynchronized\\b", "->", "::", "Exact\\b", "\\bprotected\\b", "\\bvar\\b", "\\bthis\\b", "\"",
        "\\bpackage\\b", "\\bextends\\b", "[^\\x00-\\x7f]");
    private static final Check check = new Check();

    public static void main(String[] args) throws IOException {
        face();
        String text = Files.readString(SOURCE).replaceAll("(?m)//.*$", "").replaceAll("(?s)/\\*.*?\\*/", "");
        for (String word : LEFT_OUT) {
            check.due("left out: " + word, count(text, word), 0);
        }
        check.due("imports", count(text, "\\bimport\\b"), count(text, "\\bimport java\\.util\\.Arrays;"));
        check.due("statics that are not final", count(text, "\\bstatic (?!final)\\w+ \\w+ ?[;=]"), 0);
        noPrivateMethodBearsAPublicName();
        check.end();
    }

    private static void face() {
        check.due("methods", open(SeasonStreets.class.getDeclaredMethods()).equals(METHODS) ? 1 : 0, 1);
        check.due("constants", open(SeasonStreets.class.getDeclaredFields()).equals(CONSTANTS) ? 1 : 0, 1);
        check.due("LOST", SeasonStreets.LOST, Long.MIN_VALUE);
        check.due("FULL", SeasonStreets.FULL, -4);
    }

    private static Set<String> open(Member[] members) {
        Set<String> names = new TreeSet<>();
        for (Member member : members) {
            if (!Modifier.isPrivate(member.getModifiers()) && !member.isSynthetic()) {
                names.add(member.getName());
            }
        }
        return names;
    }

    private static void noPrivateMethodBearsAPublicName() {
        for (Class<?> inside : SeasonStreets.class.getDeclaredClasses()) {
            for (Member method : inside.getDeclaredMethods()) {
                check.due("name " + method.getName(), METHODS.contains(method.getName()) ? 1 : 0, 0);
            }
        }
        int own = 0;
        for (Member method : SeasonStreets.class.getDeclaredMethods()) {
            own += METHODS.contains(method.getName()) ? 1 : 0;
        }
        check.due("one method of each public name", own, METHODS.size());
    }

    private static int count(String text, String word) {
        Matcher matcher = Pattern.compile(word).matcher(text);
        int count = 0;
        while (matcher.find()) {
            count++;
        }
        return count;
    }
}
