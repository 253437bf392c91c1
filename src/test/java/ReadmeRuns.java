import java.lang.reflect.Method;
import java.lang.reflect.Modifier;
import java.nio.file.Files;
import java.nio.file.Path;
import java.util.regex.Matcher;
import java.util.regex.Pattern;

/** Holds README.md against the class: its example is run line by line, and its table has every call. */
public final class ReadmeRuns {
    private static final Path README = Path.of("README.md");
    private static final Pattern EXAMPLE = Pattern.compile("(?s)```java\n(.*?)```");
    private static final Pattern TYPED = Pattern.compile("for \\(char b : \"([^\"]*)\"\\.toCharArray\\(\\)\\) \\{");
    private static final Pattern CALL = Pattern.compile("hall\\.(\\w+\\(.*?\\)); *// (-?\\d+): .*");
    private static final Pattern ROW = Pattern.compile("(?m)^\\| `(\\w+)\\(([^)]*)\\)` \\| .+ \\|$");
    private static int asked = 0;
    private static int wrong = 0;

    private static void holds(boolean so, String what) {
        asked++;
        if (!so) {
            wrong++;
            System.out.println("README.md: " + what);
        }
    }

    private static void line(HallMinutes hall, String line) {
        Matcher typed = TYPED.matcher(line);
        Matcher call = CALL.matcher(line);
        if (typed.matches()) {
            Edges.rule(hall, typed.group(1));
        } else if (call.matches()) {
            long got = Edges.ask(hall, call.group(1).replace("HallMinutes.NONE", "-1"));
            holds(got == Long.parseLong(call.group(2)), line + " answered " + got);
        } else {
            boolean known = line.equals("HallMinutes hall = new HallMinutes();") || line.startsWith("hall.type(b);") || line.equals("}");
            holds(known, "a line that is not run: " + line);
        }
    }

    private static void example(String readme) {
        Matcher block = EXAMPLE.matcher(readme);
        holds(block.find(), "there is an example");
        HallMinutes hall = new HallMinutes();
        Edges.at(1, "the example of README.md");
        for (String line : block.group(1).split("\n")) {
            line(hall, line.trim());
        }
        holds(asked > 10, "the example's answers are seen");
        wrong += Edges.wrong;
    }

    private static int rows(String readme, Method method) {
        int rows = 0;
        Matcher row = ROW.matcher(readme);
        while (row.find()) {
            int arguments = row.group(2).isEmpty() ? 0 : row.group(2).split(", ").length;
            if (row.group(1).equals(method.getName()) && arguments == method.getParameterCount()) {
                rows++;
            }
        }
        return rows;
    }

    private static void table(String readme) {
        int methods = 0;
        for (Method method : HallMinutes.class.getDeclaredMethods()) {
            if (Modifier.isPublic(method.getModifiers())) {
                methods++;
                holds(rows(readme, method) == 1, method.getName() + " stands once in the table, with its arguments");
            }
        }
        holds(ROW.matcher(readme).results().count() == methods, "the table has no other call");
    }

    private static void tests(String readme) throws Exception {
        try (var files = Files.list(Path.of("src/test/java"))) {
            files.map(file -> file.getFileName().toString()).filter(name -> name.endsWith("Runs.java")).forEach(name ->
                holds(readme.contains("- `" + name.replace(".java", "") + "`:"), name + " is told of"));
        }
    }

    public static void main(String[] args) throws Exception {
        String readme = Files.readString(README);
        example(readme);
        table(readme);
        tests(readme);
        System.out.println(asked + " sayings of README.md looked at, " + wrong + " not so");
        if (wrong != 0) {
            System.exit(1);
        }
    }
}
