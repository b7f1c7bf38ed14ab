import java.io.IOException;
import java.lang.reflect.InvocationTargetException;
import java.lang.reflect.Method;
import java.nio.charset.StandardCharsets;
import java.nio.file.Files;
import java.nio.file.Path;
import java.util.ArrayList;
import java.util.Arrays;
import java.util.Comparator;
import java.util.List;
import java.util.function.Supplier;

/** Runs the tests that bear a sentence of the document, each under its name and these words. */
class Edges extends Nets {
    private static String name = "";

    /** All tests of the class, or those alone that are named. */
    static void run(Class<?> tests, String[] named) {
        List<Method> found = new ArrayList<>();
        for (Method method : tests.getDeclaredMethods()) {
            boolean asked = named.length == 0 || Arrays.asList(named).contains(method.getName());
            if (asked && method.isAnnotationPresent(Sentence.class)) {
                found.add(method);
            }
        }
        found.sort(Comparator.comparing(Method::getName));
        Check.same("tests in " + tests.getSimpleName(), String.valueOf(!found.isEmpty()), "true");
        for (Method method : found) {
            runOne(method);
        }
        Check.end();
    }

    private static void runOne(Method method) {
        Sentence sentence = method.getAnnotation(Sentence.class);
        name = method.getName() + " [" + sentence.at() + ": \"" + sentence.says() + "\"]";
        Check.same(name + " stands in the document",
                String.valueOf(section(sentence.at()).contains(sentence.says())), "true");
        try {
            method.invoke(null);
        } catch (InvocationTargetException e) {
            Check.same(name, "threw " + e.getCause(), "no exception outside of a call that is asked");
        } catch (IllegalAccessException e) {
            throw new IllegalStateException(e);
        }
    }

    /** The words of the section under a heading, with one space between any two. */
    static String section(String heading) {
        try {
            String all = Files.readString(Path.of("..", "shared", "DOC.md"), StandardCharsets.UTF_8);
            int from = all.indexOf("\n## " + heading + "\n");
            if (from < 0) {
                return "";
            }
            int to = all.indexOf("\n## ", from + 1);
            return all.substring(from, to < 0 ? all.length() : to).replaceAll("\\s+", " ");
        } catch (IOException e) {
            throw new IllegalStateException(e);
        }
    }

    static void due(String what, Supplier<Object> call, Object due) {
        Check.due(name + " " + what, call, due);
    }

    static void same(String what, String got, String due) {
        Check.same(name + " " + what, got, due);
    }

    static void dueFor(String what, int[] indexes, OfIndex call, Object due) {
        for (int index : indexes) {
            due(what + " with " + index, () -> call.told(index), due);
        }
    }

    interface OfIndex {
        Object told(int index);
    }

    interface OfNet {
        Object told(Layerways x);
    }
}
