import java.lang.reflect.Constructor;
import java.lang.reflect.Executable;
import java.lang.reflect.Field;
import java.lang.reflect.Method;
import java.lang.reflect.Modifier;
import java.util.Arrays;
import java.util.Map;
import java.util.TreeMap;
import java.util.TreeSet;
import java.util.regex.Matcher;
import java.util.regex.Pattern;

/** The class shows just what the document's section "The public face" has, with the exceptions in its order. */
public final class FaceTest {
    /** Type, name, parameters, and exceptions or null. */
    private static final Pattern METHOD = Pattern.compile("public (\\w+) (\\w+)\\(([^)]*)\\)(?: throws ([^;]+))?;");
    private static final String[] FACE = {
        "int place(int) IllegalArgumentException IllegalStateException",
        "int leave(int) NoSuchElementException",
        "int street(int, int) NoSuchElementException IllegalArgumentException IllegalStateException",
        "int tear(int, int) NoSuchElementException",
        "int places()",
        "int streets()",
        "boolean isStreet(int, int) NoSuchElementException",
        "int keyAt(int) IndexOutOfBoundsException",
        "int begin(int) NoSuchElementException",
        "int length(int) NoSuchElementException IllegalStateException",
        "int farthest() IllegalStateException",
        "int layer(int) IllegalStateException",
        "int comes(int) IllegalStateException IndexOutOfBoundsException",
        "int ways(int) NoSuchElementException IllegalStateException",
        "int wayAt(int, int, int) NoSuchElementException IllegalStateException IndexOutOfBoundsException",
        "int through(int, int) NoSuchElementException IllegalStateException",
        "boolean isOnAll(int, int) NoSuchElementException IllegalStateException UnsupportedOperationException",
        "int onAll(int) NoSuchElementException IllegalStateException UnsupportedOperationException",
        "double mean() IllegalStateException",
        "int between(int, int) NoSuchElementException",
        "int parts()",
        "boolean isTwoColours()",
        "int colour(int) NoSuchElementException UnsupportedOperationException",
        "int ring() UnsupportedOperationException",
        "int ringAt(int) UnsupportedOperationException IndexOutOfBoundsException",
        "int changedAt(int) IndexOutOfBoundsException",
        "int wasAt(int) IndexOutOfBoundsException",
        "boolean isTrue()",
        "long checksum()",
    };

    public static void main(String[] args) {
        documentHasThisFace();
        Map<String, String> due = new TreeMap<>();
        for (String line : FACE) {
            due.put(line.substring(line.indexOf(' ') + 1, line.indexOf('(')), "public " + line);
        }
        TreeSet<String> hidden = new TreeSet<>();
        for (Method method : Layerways.class.getDeclaredMethods()) {
            if (Modifier.isPrivate(method.getModifiers()) || method.isSynthetic()) {
                hidden.add(method.getName());
                continue;
            }
            String got = Modifier.toString(method.getModifiers()) + " " + method.getReturnType().getSimpleName() + " "
                    + method.getName() + asks(method);
            Check.same(method.getName(), got, String.valueOf(due.remove(method.getName())));
        }
        Check.same("missing methods", due.keySet().toString(), "[]");
        for (String line : FACE) {
            String name = line.substring(line.indexOf(' ') + 1, line.indexOf('('));
            Check.same("private " + name, String.valueOf(hidden.contains(name)), "false");
        }
        for (Field field : Layerways.class.getDeclaredFields()) {
            Check.same(field.getName(), String.valueOf(Modifier.isPrivate(field.getModifiers())), "true");
        }
        for (Class<?> inside : Layerways.class.getDeclaredClasses()) {
            int flags = inside.getModifiers();
            Check.same(inside.getName(), String.valueOf(Modifier.isStatic(flags) && !Modifier.isPublic(flags)), "true");
        }
        Constructor<?>[] makers = Layerways.class.getDeclaredConstructors();
        Check.same("constructors", String.valueOf(makers.length), "1");
        Check.same("constructor", Modifier.toString(makers[0].getModifiers()) + asks(makers[0]), "public()");
        Check.same("class", Modifier.toString(Layerways.class.getModifiers()), "public final");
        Check.end();
    }

    private static void documentHasThisFace() {
        TreeSet<String> due = new TreeSet<>();
        Matcher found = METHOD.matcher(Edges.section("The public face"));
        while (found.find()) {
            String types = found.group(3).replaceAll(" \\w+(,|$)", "$1");
            String thrown = found.group(4) == null ? "" : " " + found.group(4).replace(",", "");
            due.add(found.group(1) + " " + found.group(2) + "(" + types + ")" + thrown);
        }
        Check.same("the document's face", new TreeSet<>(Arrays.asList(FACE)).toString(), due.toString());
    }

    private static String asks(Executable member) {
        StringBuilder text = new StringBuilder("(");
        for (Class<?> type : member.getParameterTypes()) {
            text.append(text.length() > 1 ? ", " : "").append(type.getSimpleName());
        }
        text.append(')');
        for (Class<?> type : member.getExceptionTypes()) {
            text.append(' ').append(type.getSimpleName());
        }
        return text.toString();
    }
}
