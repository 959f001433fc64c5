import java.io.IOException;
import java.lang.reflect.InvocationTargetException;
import java.lang.reflect.Method;
import java.lang.reflect.Modifier;
import java.nio.file.Files;
import java.nio.file.Path;
import java.util.regex.Matcher;
import java.util.regex.Pattern;

/** Whether README.md tells each call of the face, and its example answers as it says; run from the project's folder. */
public final class ReadmeTests {
    private static final Pattern ROW = Pattern.compile("(?m)^\\| `(\\w+)\\(([^)]*)\\)` \\|");
    private static final Pattern STEP = Pattern.compile("(?m)^x\\.(\\w+)\\(([^)]*)\\); // (-?\\d+)$");
    private static final Pattern LINE = Pattern.compile("(?m)^\\| `((?:moor|law|owners|start|lambs|drive|fog) [^`]*)` \\|");

    private static int wrong = 0;

    private static void complain(String what) {
        wrong++;
        System.out.println(what);
    }

    private static Method call(String name) {
        for (Method m : HundredthSheep.class.getDeclaredMethods()) {
            if (Modifier.isPublic(m.getModifiers()) && m.getName().equals(name)) {
                return m;
            }
        }
        return null;
    }

    private static int many(String arguments) {
        return arguments.isBlank() ? 0 : arguments.split(",").length;
    }

    private static void calls(String readme) {
        for (Method m : HundredthSheep.class.getDeclaredMethods()) {
            if (Modifier.isPublic(m.getModifiers()) && !readme.contains("\n| `" + m.getName() + "(")) {
                complain("README.md does not tell " + m.getName());
            }
        }
        Matcher row = ROW.matcher(readme);
        while (row.find()) {
            Method m = call(row.group(1));
            if (m == null || m.getParameterCount() != many(row.group(2))) {
                complain("README.md tells what is not of the face: " + row.group());
            }
        }
    }

    private static Object[] numbers(String arguments) {
        Object[] numbers = new Object[many(arguments)];
        String[] parts = arguments.split(",");
        for (int i = 0; i < numbers.length; i++) {
            numbers[i] = Integer.decode(parts[i].trim());
        }
        return numbers;
    }

    private static void example(String readme) throws IllegalAccessException, InvocationTargetException {
        HundredthSheep x = new HundredthSheep();
        Matcher step = STEP.matcher(readme);
        int steps = 0;
        while (step.find()) {
            Method m = call(step.group(1));
            Object got = m == null ? null : m.invoke(x, numbers(step.group(2)));
            if (!step.group(3).equals(String.valueOf(got))) {
                complain(step.group() + " of README.md answered " + got);
            }
            steps++;
        }
        if (steps == 0) {
            complain("README.md has no example");
        }
    }

    private static void text(String readme) {
        StringBuilder text = new StringBuilder();
        Matcher line = LINE.matcher(readme);
        int lines = 0;
        while (line.find()) {
            text.append(line.group(1)).append(";\n");
            lines++;
        }
        HundredthSheep x = new HundredthSheep();
        Trial.type(x, text.toString());
        if (x.moor() != 7 || lines != 7) {
            complain("the lines of README.md: fault " + x.fault(0) + " at " + x.fault(1) + " in " + text);
        }
    }

    public static void main(String[] args) throws IOException, IllegalAccessException, InvocationTargetException {
        String readme = Files.readString(Path.of("README.md"));
        calls(readme);
        example(readme);
        text(readme);
        System.out.println(wrong == 0 ? "README.md tells each call" : wrong + " things of README.md are wrong");
        if (wrong != 0) {
            System.exit(1);
        }
    }
}
