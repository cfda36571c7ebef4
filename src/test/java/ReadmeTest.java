import java.io.IOException;
import java.lang.reflect.Method;
import java.lang.reflect.Modifier;
import java.nio.file.Files;
import java.nio.file.Path;
import java.util.ArrayList;
import java.util.List;
import java.util.Map;
import java.util.regex.Matcher;
import java.util.regex.Pattern;

/** README.md: each call of its examples answers what stands behind it, and each call of the face is named. */
public final class ReadmeTest {
    private static final Due due = new Due();
    private static final Pattern CALL = Pattern.compile("x\\.(\\w+)\\(([^)]*)\\); +// (-?\\w+).*");
    private static final Map<String, Integer> NAMED = Map.of("BAD", Due.BAD, "NO", Due.NO, "FULL", Due.FULL,
        "NONE", Due.NONE, "NOTHING", Due.NOTHING, "KIND", Due.KIND, "INDEX", Due.INDEX, "SIZE", Due.SIZE);

    public static void main(String[] args) throws IOException {
        String readme = Files.readString(Path.of("README.md"));
        examples(readme);
        names(readme);
        due.end();
    }

    private static void examples(String readme) {
        Run run = new Run(new ScentCloth());
        for (String line : exampleLines(readme)) {
            if (line.startsWith("ScentCloth x")) {
                continue;
            }
            Matcher m = CALL.matcher(line);
            boolean told = m.matches();
            due.holds("README: not a call with its answer: " + line, told);
            if (told) {
                due.is("README: " + line, run.answer(m.group(1) + plain(m.group(2))), number(m.group(3)));
            }
        }
    }

    private static List<String> exampleLines(String readme) {
        List<String> lines = new ArrayList<>();
        Matcher blocks = Pattern.compile("(?s)```java\n(.*?)```").matcher(readme);
        while (blocks.find()) {
            lines.addAll(List.of(blocks.group(1).split("\n")));
        }
        due.holds("README: there are examples", lines.size() > 1);
        return lines;
    }

    /** Arguments as Run reads them: decimal or a constant's name alone, each behind a blank. */
    private static String plain(String arguments) {
        StringBuilder plain = new StringBuilder();
        for (String one : arguments.isEmpty() ? new String[0] : arguments.split(", ")) {
            boolean named = one.startsWith("ScentCloth.");
            plain.append(' ').append(named ? one.substring("ScentCloth.".length()) : Integer.decode(one).toString());
        }
        return plain.toString();
    }

    private static int number(String answer) {
        Integer named = NAMED.get(answer);
        return named != null ? named : Integer.parseInt(answer);
    }

    private static void names(String readme) {
        for (Method m : ScentCloth.class.getDeclaredMethods()) {
            if (Modifier.isPublic(m.getModifiers())) {
                boolean named = Pattern.compile("(?m)^`[^`]*\\b" + m.getName() + "\\b[^`]*`$").matcher(readme).find();
                due.holds("README: " + m.getName() + " stands in none of the rows of calls", named);
            }
        }
    }
}
