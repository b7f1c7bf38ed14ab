import java.io.IOException;
import java.lang.reflect.InvocationTargetException;
import java.lang.reflect.Method;
import java.nio.charset.StandardCharsets;
import java.nio.file.Files;
import java.nio.file.Path;
import java.util.List;
import java.util.Map;
import java.util.TreeMap;
import java.util.TreeSet;
import java.util.regex.Matcher;
import java.util.regex.Pattern;
import java.util.stream.Stream;

/** README.md tells the truth: its example, its calls with their exceptions, the 512 calls, and the tests. */
public final class ReadmeTest {
    private static final Pattern EXAMPLE = Pattern.compile("(?m)^net\\.(\\w+)\\(([^)]*)\\); +// ([-.\\w]+).*$");
    private static final Pattern ROW = Pattern.compile("(?m)^\\| `(\\w+)\\(([^)]*)\\)` \\| ([^|]+) \\|([^|]*)\\|$");
    private static final Pattern EXCEPTION = Pattern.compile("\\w+Exception");

    public static void main(String[] args) throws IOException {
        String page = Files.readString(Path.of("README.md"), StandardCharsets.UTF_8);
        Map<String, Method> face = new TreeMap<>();
        for (Method method : Layerways.class.getMethods()) {
            if (method.getDeclaringClass() == Layerways.class) {
                face.put(method.getName(), method);
            }
        }
        exampleAnswersAsItSays(page, face);
        callsStandWithTheirExceptions(page, face);
        exceptionsAreAllToldOf(page, face);
        wordsStand(page);
        testsStand(page);
        Check.end();
    }

    private static void exampleAnswersAsItSays(String page, Map<String, Method> face) {
        Layerways net = new Layerways();
        Matcher found = EXAMPLE.matcher(page);
        int lines = 0;
        while (found.find()) {
            lines++;
            Check.same("README.md: " + found.group(), told(net, face.get(found.group(1)), found.group(2)), found.group(3));
        }
        Check.same("README.md: lines with an answer", String.valueOf(lines == linesOf(page)), "true");
    }

    private static int linesOf(String page) {
        return (int) page.lines().filter(line -> line.startsWith("net.")).count();
    }

    private static String told(Layerways net, Method method, String arguments) {
        if (method == null) {
            return "no such call";
        }
        Object[] values = Stream.of(arguments.split(", *")).filter(word -> !word.isEmpty()).map(Integer::valueOf).toArray();
        try {
            return String.valueOf(method.invoke(net, values));
        } catch (InvocationTargetException e) {
            return e.getCause().getClass().getSimpleName();
        } catch (IllegalAccessException | IllegalArgumentException e) {
            return "can't be called so";
        }
    }

    private static void callsStandWithTheirExceptions(String page, Map<String, Method> face) {
        Map<String, Method> left = new TreeMap<>(face);
        Matcher found = ROW.matcher(page);
        while (found.find()) {
            String name = found.group(1);
            Method method = left.remove(name);
            Check.same("README.md: a row for " + name + ", once", String.valueOf(method != null), "true");
            if (method != null) {
                int arguments = found.group(2).isEmpty() ? 0 : found.group(2).split(",").length;
                Check.same("README.md: arguments of " + name, String.valueOf(arguments), String.valueOf(method.getParameterCount()));
                Check.same("README.md: exceptions of " + name, exceptionsIn(found.group(4)).toString(), exceptionsOf(method).toString());
            }
        }
        Check.same("README.md: calls without a row", left.keySet().toString(), "[]");
    }

    private static List<String> exceptionsIn(String text) {
        return EXCEPTION.matcher(text).results().map(found -> found.group()).toList();
    }

    private static List<String> exceptionsOf(Method method) {
        return Stream.of(method.getExceptionTypes()).map(Class::getSimpleName).toList();
    }

    private static void exceptionsAreAllToldOf(String page, Map<String, Method> face) {
        TreeSet<String> due = new TreeSet<>();
        for (Method method : face.values()) {
            due.addAll(exceptionsOf(method));
        }
        TreeSet<String> got = new TreeSet<>(exceptionsIn(sectionOf(page, "### Exceptions")));
        Check.same("README.md: the exceptions that a caller meets", got.toString(), due.toString());
    }

    private static String sectionOf(String page, String heading) {
        int from = page.indexOf("\n" + heading + "\n");
        if (from < 0) {
            return "";
        }
        int to = page.indexOf("\n## ", from + 1);
        return page.substring(from, to < 0 ? page.length() : to);
    }

    private static void wordsStand(String page) {
        for (String words : new String[] {"`new Layerways()`", "at most 512 calls after it has been made", ".ci/run"}) {
            Check.same("README.md says " + words, String.valueOf(page.contains(words)), "true");
        }
    }

    private static void testsStand(String page) throws IOException {
        String told = sectionOf(page, "## Tests");
        try (Stream<Path> files = Files.list(Path.of("src", "test", "java"))) {
            for (Path file : files.sorted().toList()) {
                String name = file.getFileName().toString();
                if (name.endsWith("Test.java")) {
                    String test = "`" + name.substring(0, name.length() - 5) + "`";
                    Check.same("README.md tells of " + test, String.valueOf(told.contains(test)), "true");
                }
            }
        }
    }
}
