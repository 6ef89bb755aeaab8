import java.io.IOException;
import java.lang.reflect.InvocationTargetException;
import java.lang.reflect.Method;
import java.lang.reflect.Modifier;
import java.nio.file.DirectoryStream;
import java.nio.file.Files;
import java.nio.file.Path;
import java.util.List;
import java.util.Set;
import java.util.TreeSet;
import java.util.regex.Matcher;
import java.util.regex.Pattern;

/**
 * Holds README.md to the class: the calls of its examples are read from it and made, its table is compared with the
 * face. It is run from the project's directory, as .ci/run does.
 */
public final class ReadmeTest {
    private static final String NEW_OBJECT = "FormComposer x = new FormComposer();";
    private static final Pattern CALL = Pattern.compile("x\\.(\\w+)\\(([^()]*)\\);\\s*(?://\\s*(.*))?");
    private static final Pattern SAID_D = Pattern.compile("D is (-?\\d+)");
    private static final Pattern SAID_NAME = Pattern.compile("register (\\d): (\\([^()]*\\))");
    private static final Pattern ROW = Pattern.compile("\\| `(\\w+ \\w+)\\(([^()]*)\\)` \\|(.*)\\|(.*)\\|");
    private static final Pattern EXCEPTION = Pattern.compile("\\w+Exception");
    private static final String THROWS = "throws ";

    private static final Set<String> shown = new TreeSet<>();
    private static final Set<String> thrown = new TreeSet<>();
    private static int wrong = 0;

    private static void due(String what, Object got, Object want) {
        if (!got.equals(want)) {
            wrong++;
            System.out.println("README.md, " + what + ": the class says " + got + ", README.md says " + want);
        }
    }

    private static void bad(String why) {
        wrong++;
        System.out.println("README.md: " + why);
    }

    private static Method method(String name) {
        for (Method m : FormComposer.class.getDeclaredMethods()) {
            if (Modifier.isPublic(m.getModifiers()) && m.getName().equals(name)) {
                return m;
            }
        }
        return null;
    }

    private static Object[] arguments(Method m, String text) {
        String[] parts = text.isBlank() ? new String[0] : text.split(",");
        Class<?>[] types = m.getParameterTypes();
        if (parts.length != types.length) {
            return null;
        }
        Object[] values = new Object[parts.length];
        for (int i = 0; i < parts.length; i++) {
            String part = parts[i].trim();
            if (types[i] == long.class) {
                values[i] = Long.parseLong(part.endsWith("L") ? part.substring(0, part.length() - 1) : part);
            } else {
                values[i] = Integer.parseInt(part);
            }
        }
        return values;
    }

    private static String answer(FormComposer x, Method m, Object[] values) throws IllegalAccessException {
        try {
            return String.valueOf(m.invoke(x, values));
        } catch (InvocationTargetException e) {
            thrown.add(e.getCause().getClass().getSimpleName());
            return THROWS + e.getCause().getClass().getSimpleName();
        }
    }

    /** What the comment says before its colon; a call without an answer has none to say. */
    private static String said(Method m, String comment) {
        String text = comment == null ? "" : comment;
        if (m.getReturnType() == void.class && !text.startsWith(THROWS)) {
            return "null";
        }
        int colon = text.indexOf(':');
        return (colon < 0 ? text : text.substring(0, colon)).trim();
    }

    private static void makeCall(FormComposer x, String line) throws IllegalAccessException {
        Matcher call = CALL.matcher(line);
        Method m = call.matches() ? method(call.group(1)) : null;
        Object[] values = m == null ? null : arguments(m, call.group(2));
        if (values == null) {
            bad("no call of the face: " + line);
            return;
        }
        shown.add(m.getName());
        due(line, answer(x, m, values), said(m, call.group(3)));
        lookAtState(x, line);
    }

    /** A comment may also say which one D is, and which name a register has, behind the call. */
    private static void lookAtState(FormComposer x, String line) {
        Matcher d = SAID_D.matcher(line);
        while (d.find()) {
            due(line + " (D)", String.valueOf(x.count(0)), d.group(1));
        }
        Matcher name = SAID_NAME.matcher(line);
        while (name.find()) {
            int r = Integer.parseInt(name.group(1));
            due(line + " (name)", "(" + x.form(r, 0) + ", " + x.form(r, 1) + ", " + x.form(r, 2) + ")", name.group(2));
        }
    }

    private static void makeExamples(List<String> lines) throws IllegalAccessException {
        boolean inside = false;
        FormComposer x = null;
        for (String line : lines) {
            if (line.startsWith("```")) {
                inside = line.equals("```java");
                x = null;
            } else if (inside && line.equals(NEW_OBJECT)) {
                x = new FormComposer();
            } else if (inside && x == null) {
                bad("an example begins without a new object: " + line);
            } else if (inside) {
                makeCall(x, line);
            }
        }
    }

    private static String types(String parameters) {
        return parameters.replaceAll("(\\w+) \\w+", "$1");
    }

    private static String types(Method m) {
        StringBuilder all = new StringBuilder();
        for (Class<?> type : m.getParameterTypes()) {
            all.append(all.length() == 0 ? "" : ", ").append(type.getSimpleName());
        }
        return all.toString();
    }

    private static Set<String> exceptions(String cell) {
        Set<String> all = new TreeSet<>();
        Matcher found = EXCEPTION.matcher(cell);
        while (found.find()) {
            all.add(found.group());
        }
        return all;
    }

    private static Set<String> tableOf(List<String> lines) {
        Set<String> all = new TreeSet<>();
        for (String line : lines) {
            Matcher row = ROW.matcher(line);
            if (row.matches()) {
                all.add(row.group(1) + "(" + types(row.group(2)) + ") " + exceptions(row.group(4)));
            }
        }
        return all;
    }

    private static Set<String> faceOf(Class<?> kind) {
        Set<String> all = new TreeSet<>();
        for (Method m : kind.getDeclaredMethods()) {
            if (Modifier.isPublic(m.getModifiers())) {
                Set<String> exceptions = new TreeSet<>();
                for (Class<?> e : m.getExceptionTypes()) {
                    exceptions.add(e.getSimpleName());
                }
                all.add(m.getReturnType().getSimpleName() + " " + m.getName() + "(" + types(m) + ") " + exceptions);
            }
        }
        return all;
    }

    private static Set<String> namesOf(Class<?> kind) {
        Set<String> all = new TreeSet<>();
        for (Method m : kind.getDeclaredMethods()) {
            if (Modifier.isPublic(m.getModifiers())) {
                all.add(m.getName());
            }
        }
        return all;
    }

    private static void tests(String text) throws IOException {
        due("how to run the tests", text.contains("\n    .ci/run\n"), true);
        try (DirectoryStream<Path> files = Files.newDirectoryStream(Path.of("src", "test", "java"), "*.java")) {
            for (Path file : files) {
                String name = file.getFileName().toString().replace(".java", "");
                due("the list of tests names " + name, text.contains("\n- `" + name + "`: "), true);
            }
        }
    }

    public static void main(String[] args) throws IOException, IllegalAccessException {
        Path readme = Path.of("README.md");
        if (!Files.exists(readme)) {
            System.out.println("there is no README.md in " + Path.of("").toAbsolutePath());
            System.exit(1);
        }
        List<String> lines = Files.readAllLines(readme);
        String text = String.join("\n", lines);
        makeExamples(lines);
        due("calls that the examples show", namesOf(FormComposer.class), shown);
        due("exceptions that the examples show", thrown,
                Set.of("IllegalArgumentException", "IndexOutOfBoundsException"));
        due("the table of calls", faceOf(FormComposer.class), tableOf(lines));
        due("for how many calls an object is used", text.replace('\n', ' ').contains("at most 512 calls"), true);
        tests(text);
        System.out.println(wrong == 0 ? "README.md says what the class does" : wrong + " sayings are wrong");
        if (wrong != 0) {
            System.exit(1);
        }
    }
}
