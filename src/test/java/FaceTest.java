import java.io.IOException;
import java.lang.reflect.Constructor;
import java.lang.reflect.Field;
import java.lang.reflect.Method;
import java.lang.reflect.Modifier;
import java.nio.file.Files;
import java.nio.file.Path;
import java.util.Map;
import java.util.Set;
import java.util.TreeMap;
import java.util.TreeSet;
import java.util.regex.Matcher;
import java.util.regex.Pattern;

/** The public face, and the rules of LANGUAGE.md that can be looked up in the class or in its text. */
public final class FaceTest {
    private static final String INDEX = "IndexOutOfBoundsException";
    private static final String ARGUMENT = "IllegalArgumentException";
    private static final String STATE = "IllegalStateException";
    private static final String[] FACE = {
        "int setRoads(int, int) " + INDEX + " " + ARGUMENT,
        "int setDepot(int, int) " + ARGUMENT,
        "int addHome(int, int, int) " + ARGUMENT + " " + STATE,
        "int order(int, boolean, int) " + INDEX + " " + ARGUMENT + " " + STATE,
        "int addLocker(int, int, int, int, int) " + ARGUMENT + " " + STATE,
        "int addVan(int, int, int) " + ARGUMENT + " " + STATE,
        "int addParcel(int, int, int, int, int) " + ARGUMENT + " " + INDEX + " " + STATE,
        "int home(int, int) " + INDEX,
        "int locker(int, int) " + INDEX,
        "int parcel(int, int) " + INDEX,
        "int put(int, int, int) " + INDEX + " " + STATE,
        "int take(int) " + INDEX + " " + STATE,
        "int route(int, int) " + INDEX,
        "int van(int, int) " + INDEX,
        "int stop(int, int, int) " + INDEX,
        "int adds(int, int, int) " + INDEX,
        "int cheapest(int) " + INDEX,
        "int plan()",
        "int improve(int) " + INDEX,
        "int move()",
        "int count(int) " + INDEX,
        "int drive()",
        "int foresee(int) " + INDEX,
        "int hour(int) " + INDEX,
        "double mean()",
        "long digest()",
    };
    private static final String[] RULED_OUT = {"->", "::", "catch", "finally", "synchronized", "assert ", "volatile",
        "System.out", "System.nano", "System.current", "Random", "Thread", "Object ", ".equals(", ".hashCode(",
        ".toString(", "Exact(", "instanceof", "protected ", "package "};

    public static void main(String[] args) throws IOException {
        face();
        members();
        classesInside();
        text();
        methods();
        Check.end();
    }

    private static String told(Method method) {
        StringBuilder told = new StringBuilder();
        told.append(method.getReturnType().getName()).append(' ').append(method.getName()).append('(');
        for (int i = 0; i < method.getParameterCount(); i++) {
            told.append(i == 0 ? "" : ", ").append(method.getParameterTypes()[i].getName());
        }
        told.append(')');
        for (Class<?> thrown : method.getExceptionTypes()) {
            told.append(' ').append(thrown.getSimpleName());
        }
        return told.toString();
    }

    private static void face() {
        Set<String> due = new TreeSet<>(Set.of(FACE));
        Set<String> got = new TreeSet<>();
        for (Method method : LastMile.class.getDeclaredMethods()) {
            if (!Modifier.isPrivate(method.getModifiers())) {
                got.add(told(method));
                Check.due(method.getName() + " is public", Modifier.isPublic(method.getModifiers()));
                Check.due(method.getName() + " is not static", !Modifier.isStatic(method.getModifiers()));
            }
        }
        Check.due("the face is that of the document: " + got, got.equals(due));
        int modifiers = LastMile.class.getModifiers();
        Check.due("public and final", Modifier.isPublic(modifiers) && Modifier.isFinal(modifiers));
        Check.due("no package", LastMile.class.getPackageName().isEmpty());
        Constructor<?>[] constructors = LastMile.class.getDeclaredConstructors();
        Check.due("one constructor", constructors.length == 1 && constructors[0].getParameterCount() == 0
            && Modifier.isPublic(constructors[0].getModifiers()));
    }

    private static void members() {
        Set<String> names = new TreeSet<>();
        for (Method method : LastMile.class.getDeclaredMethods()) {
            if (Modifier.isPublic(method.getModifiers())) {
                names.add(method.getName());
            }
        }
        for (Method method : LastMile.class.getDeclaredMethods()) {
            boolean isPublic = Modifier.isPublic(method.getModifiers());
            Check.due("rule 1: " + method.getName(), isPublic || !names.contains(method.getName()));
            Check.due("rule 11: parameters of " + method.getName(), method.getParameterCount() <= 7);
        }
        int fields = 0;
        for (Field field : LastMile.class.getDeclaredFields()) {
            Check.due("rule 1: " + field.getName() + " is private", Modifier.isPrivate(field.getModifiers()));
            fields += staticIsConstant(field) ? 0 : 1;
        }
        Check.due("rule 11: fields", fields <= 20);
    }

    private static boolean staticIsConstant(Field field) {
        if (!Modifier.isStatic(field.getModifiers())) {
            return false;
        }
        Check.due("rule 5: " + field.getName() + " is final", Modifier.isFinal(field.getModifiers()));
        Class<?> type = field.getType();
        Check.due("rule 5: " + field.getName(), type == int.class || type == int[].class);
        return true;
    }

    private static void classesInside() {
        Class<?>[] inside = LastMile.class.getDeclaredClasses();
        Check.due("rule 11: classes", inside.length + 1 <= 12);
        for (Class<?> one : inside) {
            Check.due("rule 1: " + one.getName(), Modifier.isPrivate(one.getModifiers()));
            Check.due("rule 1: " + one.getName(), Modifier.isStatic(one.getModifiers()));
            int fields = 0;
            for (Field field : one.getDeclaredFields()) {
                fields += staticIsConstant(field) ? 0 : 1;
            }
            Check.due("rule 11: fields of " + one.getName(), fields <= 20);
        }
    }

    private static void text() throws IOException {
        String text = Files.readString(Path.of("src/main/java/LastMile.java"));
        Check.due("rule 4: the only import", text.split("\nimport |^import ").length == 2
            && text.startsWith("import java.util.ArrayList;\n"));
        for (String word : RULED_OUT) {
            Check.due("ruled out: " + word, !text.contains(word));
        }
        for (int i = 0; i < text.length(); i++) {
            if (text.charAt(i) > 127) {
                Check.fail("a sign that is not of ASCII at " + i);
            }
        }
    }

    /** Rules 8 and 11: short methods, none that calls itself, and no chain of calls of more than eight. */
    private static void methods() throws IOException {
        String text = Files.readString(Path.of("src/main/java/LastMile.java"));
        Map<String, String> bodies = new TreeMap<>();
        Pattern start = Pattern.compile("(?m)^((?: {4}){1,2})(?:\\w+ )*\\w+(?:\\[\\])? (\\w+)\\([^;{}]*\\{\n");
        Matcher head = start.matcher(text);
        while (head.find()) {
            int from = head.end() - 1;
            String body = text.substring(from, text.indexOf("\n" + head.group(1) + "}\n", from));
            Check.due("rule 11: the lines of " + head.group(2), body.strip().split("\n").length <= 60);
            // Methods of one name are looked at as one, so that a chain may seem longer here, but never shorter.
            bodies.merge(head.group(2), body, String::concat);
        }
        for (Method method : LastMile.class.getDeclaredMethods()) {
            Check.due("rule 11: " + method.getName() + " is looked at", bodies.containsKey(method.getName()));
        }
        for (String name : bodies.keySet()) {
            Check.due("rules 8 and 11: calls below " + name, depthOf(name, bodies, 1) <= 8);
        }
    }

    private static int depthOf(String name, Map<String, String> bodies, int depth) {
        int deepest = depth;
        Matcher called = Pattern.compile("(\\w+)\\(").matcher(bodies.get(name));
        while (depth <= 8 && called.find()) {
            if (bodies.containsKey(called.group(1))) {
                deepest = Math.max(deepest, depthOf(called.group(1), bodies, depth + 1));
            }
        }
        return deepest;
    }
}
