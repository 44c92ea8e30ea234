import java.io.IOException;
import java.lang.reflect.InvocationTargetException;
import java.lang.reflect.Method;
import java.net.URL;
import java.net.URLClassLoader;
import java.nio.file.Files;
import java.nio.file.Path;
import java.util.ArrayList;
import java.util.Arrays;
import java.util.List;
import java.util.NoSuchElementException;
import java.util.TreeSet;
import java.util.regex.Matcher;
import java.util.regex.Pattern;
import javax.tools.ToolProvider;

/** What README.md shows of calls and answers is so. */
public final class ReadmeTest {
    // A call, with or without a variable that takes its answer, and the answer behind it.
    private static final Pattern SHOWN = Pattern.compile("((?:int )?\\w+ = )?(rolls\\..+);\\s+// "
            + "(-?\\d+|NONE|HIDDEN|true|false|throws NoSuchElementException)(:.*)?");
    private static final Pattern CALL = Pattern.compile("`(\\w+)`");
    private static final int NO_SUCH = -7;

    private final Checks checks = new Checks();
    private final List<String> calls = new ArrayList<>();
    private final List<String> wanted = new ArrayList<>();

    public static void main(String[] args) throws ReflectiveOperationException, IOException {
        List<String> page = Files.readAllLines(Path.of("README.md"));
        ReadmeTest test = new ReadmeTest();
        test.shownCalls(page);
        test.tableOfCalls(page);
        test.checks.end("ReadmeTest");
    }

    private void same(String what, Object got, Object want) {
        if (got.equals(want)) {
            checks.due(what, 0, 0);
        } else {
            checks.fail(what + " answered " + got + ", README.md shows " + want + ";");
        }
    }

    // ---- calls with what they answer

    /** All Java on the page, one piece behind the other, as a class that gathers the answers. */
    private String program(List<String> page) {
        StringBuilder text = new StringBuilder("import java.util.*;\n"
                + "public final class Shown {\npublic static void run(List<Object> answers) {\n");
        boolean inside = false;
        for (String line : page) {
            if (line.startsWith("```")) {
                inside = line.equals("```java");
            } else if (inside) {
                text.append(statement(line)).append('\n');
            }
        }
        return text.append("}\n}\n").toString();
    }

    private String statement(String line) {
        Matcher shown = SHOWN.matcher(line);
        if (!shown.matches()) {
            same("a line without an answer", line, "GuardRolls rolls = new GuardRolls();");
            return line;
        }
        String call = shown.group(2);
        calls.add(call);
        wanted.add(shown.group(3));
        if (shown.group(3).startsWith("throws")) {
            return "try { answers.add(" + call + "); } catch (NoSuchElementException e) {"
                    + " answers.add(\"throws NoSuchElementException\"); }";
        }
        String taken = shown.group(1) == null ? "" : shown.group(1);
        String name = taken.replace("int ", "").replace(" = ", "");
        return taken.isEmpty() ? "answers.add(" + call + ");"
                : taken + call + "; answers.add(" + name + ");";
    }

    private void shownCalls(List<String> page) throws ReflectiveOperationException, IOException {
        Path made = Files.createTempDirectory("readme");
        Path source = made.resolve("Shown.java");
        Files.writeString(source, program(page));
        int failed = ToolProvider.getSystemJavaCompiler().run(null, null, null, "-classpath",
                System.getProperty("java.class.path"), "-d", made.toString(), source.toString());
        checks.due("README.md's Java compiles", failed, 0);
        List<Object> answers = new ArrayList<>();
        if (failed == 0) {
            try (URLClassLoader loader = new URLClassLoader(new URL[] {made.toUri().toURL()})) {
                loader.loadClass("Shown").getMethod("run", List.class).invoke(null, answers);
            }
        }
        for (String name : new String[] {"Shown.class", "Shown.java", "."}) {
            Files.deleteIfExists(made.resolve(name).normalize());
        }
        checks.due("README.md shows calls", wanted.size() > 40, true);
        checks.due("README.md's calls", answers.size(), wanted.size());
        for (int i = 0; i < answers.size(); i++) {
            same(calls.get(i), answers.get(i).toString(), number(wanted.get(i)));
        }
    }

    private static String number(String answer) {
        return answer.equals("NONE") ? "" + GuardRolls.NONE
                : answer.equals("HIDDEN") ? "" + GuardRolls.HIDDEN : answer;
    }

    // ---- the table of what calls answer that have no answer

    private void tableOfCalls(List<String> page) throws ReflectiveOperationException {
        List<String> named = new ArrayList<>();
        for (int at = page.indexOf("|-------|---------------------------|") + 1;
                page.get(at).startsWith("|"); at++) {
            String[] cells = page.get(at).split("\\|");
            Matcher call = CALL.matcher(cells[1]);
            while (call.find()) {
                named.add(call.group(1));
                noAnswer(call.group(1), cells[2].trim());
            }
        }
        TreeSet<String> face = new TreeSet<>();
        for (Method method : callsOfTheFace()) {
            face.add(method.getName());
        }
        same("the table names", new TreeSet<>(named), face);
        checks.due("the table names each once", named.size(), face.size());
    }

    private static List<Method> callsOfTheFace() {
        List<Method> methods = new ArrayList<>();
        for (Method method : GuardRolls.class.getMethods()) {
            if (method.getDeclaringClass() == GuardRolls.class) {
                methods.add(method);
            }
        }
        return methods;
    }

    private void noAnswer(String name, String cell) throws ReflectiveOperationException {
        GuardRolls x = fullTape();
        for (Method method : callsOfTheFace()) {
            if (method.getName().equals(name)) {
                String got = answer(x, method);
                if (cell.startsWith("always answers")) {
                    checks.due(name + " answers", Integer.parseInt(got) >= 0, true);
                } else {
                    same(name, got, number(cell.replaceAll("[`]|, and.*", "")));
                }
                int counted = 0;
                for (int i = 0; i < 5; i++) {
                    counted += x.status(i);
                }
                checks.due(name + " counts in STATUS", counted, cell.contains("STATUS") ? 1 : 0);
                checks.due("the TAPE behind " + name, x.count(0), 200);
            }
        }
    }

    /** Nobody, no IMAGE, and a TAPE that has a FAULT and no room for more. */
    private static GuardRolls fullTape() {
        GuardRolls x = new GuardRolls();
        for (int i = 0; i < 10; i++) {
            x.feed(-1, -1, -1, -1, -1);
        }
        return x;
    }

    /** With arguments that nothing bears. */
    private static String answer(GuardRolls x, Method method) throws IllegalAccessException {
        Object[] arguments = new Object[method.getParameterCount()];
        Arrays.fill(arguments, NO_SUCH);
        try {
            return method.invoke(x, arguments).toString();
        } catch (InvocationTargetException e) {
            return e.getCause() instanceof NoSuchElementException ? "throws NoSuchElementException"
                    : e.getCause().toString();
        }
    }
}
