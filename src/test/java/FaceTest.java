import java.io.IOException;
import java.lang.reflect.Constructor;
import java.lang.reflect.Executable;
import java.lang.reflect.Field;
import java.lang.reflect.Method;
import java.lang.reflect.Modifier;
import java.nio.file.Files;
import java.nio.file.Path;
import java.util.ArrayList;
import java.util.List;
import java.util.TreeSet;
import java.util.stream.Collectors;
import java.util.stream.Stream;

/** The face as the document shows it, and what LANGUAGE.md asks of what stands behind it. */
public final class FaceTest {
    private static final int MOST_CLASSES = 12;
    private static final int MOST_FIELDS = 20;
    private static final int MOST_PARAMETERS = 7;

    private final Checks checks = new Checks();

    public static void main(String[] args) throws IOException, IllegalAccessException {
        FaceTest test = new FaceTest();
        test.face();
        test.behind();
        test.checks.end("FaceTest");
    }

    // ---- the face

    /** Lines of the document's block, each without the names of its parameters. */
    private static TreeSet<String> asked() throws IOException {
        List<String> page = Files.readAllLines(Path.of("..", "shared", "DOC.md"));
        TreeSet<String> lines = new TreeSet<>();
        for (int at = page.indexOf("public final class GuardRolls {"); !page.get(at).equals("}"); at++) {
            String line = page.get(at).trim().replaceAll("(int|boolean) \\w+(?=[,)])", "$1");
            lines.add(line.replaceAll("[;{]$", "").trim());
        }
        return lines;
    }

    private static TreeSet<String> had() throws IllegalAccessException {
        TreeSet<String> lines = new TreeSet<>();
        lines.add(Modifier.toString(GuardRolls.class.getModifiers()) + " class GuardRolls");
        for (Field field : GuardRolls.class.getDeclaredFields()) {
            if (!Modifier.isPrivate(field.getModifiers())) {
                lines.add(Modifier.toString(field.getModifiers()) + " " + field.getType() + " "
                        + field.getName() + " = " + field.get(null));
            }
        }
        for (Constructor<?> made : GuardRolls.class.getDeclaredConstructors()) {
            lines.add(Modifier.toString(made.getModifiers()) + " GuardRolls" + parameters(made));
        }
        for (Method method : GuardRolls.class.getDeclaredMethods()) {
            if (!Modifier.isPrivate(method.getModifiers())) {
                lines.add(Modifier.toString(method.getModifiers()) + " " + method.getReturnType()
                        + " " + method.getName() + parameters(method));
            }
        }
        return lines;
    }

    private static String parameters(Executable of) {
        String thrown = Stream.of(of.getExceptionTypes()).map(Class::getSimpleName)
                .collect(Collectors.joining(", "));
        return Stream.of(of.getParameterTypes()).map(Class::getName)
                .collect(Collectors.joining(", ", "(", ")"))
                + (thrown.isEmpty() ? "" : " throws " + thrown);
    }

    private void face() throws IOException, IllegalAccessException {
        TreeSet<String> asked = asked();
        TreeSet<String> had = had();
        checks.due("lines of the document's face", asked.size(), 55);
        for (String line : asked) {
            checks.due("the class has: " + line, had.contains(line), true);
        }
        for (String line : had) {
            checks.due("the document has: " + line, asked.contains(line), true);
        }
    }

    // ---- behind it

    private void behind() {
        List<Class<?>> all = new ArrayList<>(List.of(GuardRolls.class.getDeclaredClasses()));
        for (Class<?> inside : all) {
            checks.due(inside + " is private", Modifier.isPrivate(inside.getModifiers()), true);
            checks.due(inside + " is static", Modifier.isStatic(inside.getModifiers()), true);
            checks.due(inside + " has classes", inside.getDeclaredClasses().length, 0);
        }
        all.add(GuardRolls.class);
        checks.due("not too many classes", all.size() <= MOST_CLASSES, true);
        TreeSet<String> open = new TreeSet<>();
        for (Method method : GuardRolls.class.getMethods()) {
            open.add(method.getName());
        }
        for (Class<?> one : all) {
            fields(one);
            methods(one, open);
        }
    }

    private void fields(Class<?> of) {
        int fields = 0;
        for (Field field : of.getDeclaredFields()) {
            if (Modifier.isStatic(field.getModifiers())) {
                checks.due(field + " is final", Modifier.isFinal(field.getModifiers()), true);
            } else {
                fields++;
            }
        }
        checks.due("not too many fields in " + of, fields <= MOST_FIELDS, true);
    }

    private void methods(Class<?> of, TreeSet<String> open) {
        for (Method method : of.getDeclaredMethods()) {
            checks.due("not too many parameters: " + method,
                    method.getParameterCount() <= MOST_PARAMETERS, true);
            if (Modifier.isPrivate(method.getModifiers())) {
                checks.due("another name: " + method, open.contains(method.getName()), false);
            }
        }
    }
}
