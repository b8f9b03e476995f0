import java.io.IOException;
import java.lang.reflect.Method;
import java.lang.reflect.Modifier;
import java.nio.file.Files;
import java.nio.file.Path;
import java.util.ArrayList;
import java.util.List;
import java.util.Set;
import java.util.TreeSet;
import java.util.regex.Matcher;
import java.util.regex.Pattern;

/** README.md: its example answers what its comments say, and its table has each call with what it throws. */
public final class ReadmeTest {
    /** A line of the example: what may be kept of it, the call, its arguments, and the answer that its comment says. */
    private static final Pattern LINE =
        Pattern.compile("(?:int (\\w+) = )?planner\\.(\\w+)\\(([^)]*)\\); *(?:// (-?\\d+)?.*)?");
    private static final Pattern ROW = Pattern.compile("\\| `(\\w+)\\(([^)]*)\\)` \\|.*\\| ?([^|]*) \\|");

    private static final List<String> names = new ArrayList<>();
    private static final List<Integer> values = new ArrayList<>();

    public static void main(String[] args) throws IOException, ReflectiveOperationException {
        String text = Files.readString(Path.of("README.md"));
        example(text);
        table(text);
        Check.end();
    }

    private static void example(String text) throws ReflectiveOperationException {
        int begin = text.indexOf("```java\n") + 8;
        String[] lines = text.substring(begin, text.indexOf("```", begin)).split("\n");
        Check.due("the example makes a planner", lines[0].equals("LastMile planner = new LastMile();"));
        LastMile planner = new LastMile();
        int answers = 0;
        for (int i = 1; i < lines.length; i++) {
            if (lines[i].isEmpty()) {
                continue;
            }
            Matcher line = LINE.matcher(lines[i]);
            if (!line.matches()) {
                Check.fail("README.md, not understood: " + lines[i]);
                continue;
            }
            Object answer = methodOf(line.group(2)).invoke(planner, argumentsOf(line.group(3)));
            if (line.group(1) != null) {
                names.add(line.group(1));
                values.add((Integer) answer);
            } else {
                Check.due("README.md, an answer for " + lines[i], line.group(4) != null);
                Check.due("README.md: " + lines[i], String.valueOf(answer).equals(line.group(4)));
                answers++;
            }
        }
        Check.due("README.md: an example with answers", answers >= 10);
    }

    private static Method methodOf(String name) {
        for (Method method : LastMile.class.getDeclaredMethods()) {
            if (Modifier.isPublic(method.getModifiers()) && method.getName().equals(name)) {
                return method;
            }
        }
        throw new IllegalStateException("README.md names a call that there is not: " + name);
    }

    private static Object[] argumentsOf(String text) {
        List<Object> arguments = new ArrayList<>();
        for (String word : text.isEmpty() ? new String[0] : text.split(", ")) {
            arguments.add(valueOf(word));
        }
        return arguments.toArray();
    }

    private static Object valueOf(String word) {
        if (names.contains(word)) {
            return values.get(names.indexOf(word));
        }
        if (word.equals("true") || word.equals("false")) {
            return word.equals("true");
        }
        String[] shifted = word.split(" << ");
        int number = shifted[0].startsWith("0b") ? Integer.parseInt(shifted[0].substring(2), 2)
            : Integer.parseInt(shifted[0]);
        return shifted.length == 2 ? number << Integer.parseInt(shifted[1]) : number;
    }

    private static void table(String text) {
        Set<String> told = new TreeSet<>();
        for (String line : text.split("\n")) {
            Matcher row = ROW.matcher(line);
            if (row.matches()) {
                int count = row.group(2).isEmpty() ? 0 : row.group(2).split(", ").length;
                told.add(row.group(1) + "/" + count + ": " + row.group(3).trim());
            }
        }
        Set<String> due = new TreeSet<>();
        for (Method method : LastMile.class.getDeclaredMethods()) {
            if (Modifier.isPublic(method.getModifiers())) {
                due.add(method.getName() + "/" + method.getParameterCount() + ": " + thrownBy(method));
            }
        }
        Check.due("README.md: a table of all calls, not " + told, told.equals(due));
    }

    private static String thrownBy(Method method) {
        StringBuilder thrown = new StringBuilder();
        for (Class<?> one : method.getExceptionTypes()) {
            String name = one.getSimpleName();
            thrown.append(thrown.length() == 0 ? "" : ", ");
            thrown.append(name.startsWith("Index") ? "Index" : name.startsWith("IllegalA") ? "Argument" : "State");
        }
        return thrown.toString();
    }
}
