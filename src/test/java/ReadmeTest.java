import java.io.IOException;
import java.lang.reflect.InvocationTargetException;
import java.lang.reflect.Method;
import java.nio.file.Files;
import java.nio.file.Path;
import java.util.List;
import java.util.regex.MatchResult;
import java.util.regex.Matcher;
import java.util.regex.Pattern;
import java.util.stream.Stream;

/**
 * README.md says how to use the class: what stands behind a call of its example is what the call
 * answers, and its table has a row for each call of the face, with the exceptions in their order.
 */
public final class ReadmeTest {
    private static final Pattern CALL = Pattern.compile("tree\\.(\\w+)\\(([\\d, ]*)\\); +// (.+)");
    private static final Pattern NUMBER = Pattern.compile("\\d+");
    private static final Pattern EXCEPTION = Pattern.compile("\\w+Exception");
    private static final String THROWS = "throws ";

    private ReadmeTest() {
    }

    public static void main(String[] args) throws IOException {
        List<String> lines = Files.readAllLines(Path.of("README.md"));
        int start = lines.indexOf("```java");
        Check.holds("there is an example", start >= 0);
        List<String> example = lines.subList(start + 1, lines.size());
        example = example.subList(0, example.indexOf("```"));
        Check.holds("the example makes an object", example.get(0).equals("OverlayTree tree = new OverlayTree();"));
        runCalls(example.subList(1, example.size()));
        for (Method each : OverlayTree.class.getMethods()) {
            if (each.getDeclaringClass() == OverlayTree.class) {
                Check.holds("the example calls " + each.getName() + "()", calls(example, each));
                Check.holds("the table tells of " + each.getName() + "()", hasRow(lines, each));
            }
        }
        Check.end();
    }

    private static void runCalls(List<String> example) {
        OverlayTree tree = new OverlayTree();
        for (String line : example) {
            Matcher call = CALL.matcher(line);
            if (call.matches()) {
                runCall(tree, line, call);
            } else {
                Check.holds("'" + line + "' is a call with its answer", false);
            }
        }
    }

    private static void runCall(OverlayTree tree, String line, Matcher call) {
        String got = answer(tree, call.group(1), call.group(2));
        String told = call.group(3);
        boolean answersNothing = got.equals("null") && !told.startsWith(THROWS);
        Check.holds("'" + line + "' answered " + got, answersNothing || told.split(":")[0].equals(got));
    }

    private static String answer(OverlayTree tree, String name, String numbers) {
        Object[] given = NUMBER.matcher(numbers).results().map(each -> Integer.valueOf(each.group())).toArray();
        for (Method each : OverlayTree.class.getMethods()) {
            if (each.getName().equals(name) && each.getParameterCount() == given.length) {
                return invoke(tree, each, given);
            }
        }
        return "there is no such call";
    }

    private static String invoke(OverlayTree tree, Method method, Object[] given) {
        try {
            return String.valueOf(method.invoke(tree, given));
        } catch (InvocationTargetException e) {
            return THROWS + e.getCause().getClass().getSimpleName();
        } catch (IllegalAccessException e) {
            return e.toString();
        }
    }

    private static boolean calls(List<String> example, Method method) {
        return example.stream().anyMatch(line -> line.startsWith("tree." + method.getName() + "("));
    }

    private static boolean hasRow(List<String> lines, Method method) {
        List<String> due = Stream.of(method.getExceptionTypes()).map(Class::getSimpleName).toList();
        return lines.stream().filter(line -> line.startsWith("| `" + method.getName() + "("))
                .anyMatch(line -> exceptionsIn(line).equals(due));
    }

    private static List<String> exceptionsIn(String line) {
        return EXCEPTION.matcher(line).results().map(MatchResult::group).toList();
    }
}
