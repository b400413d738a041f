import java.lang.reflect.Method;
import java.lang.reflect.Modifier;
import java.nio.file.Files;
import java.nio.file.Path;
import java.util.ArrayList;
import java.util.List;
import java.util.regex.Matcher;
import java.util.regex.Pattern;
import javax.tools.JavaCompiler;
import javax.tools.ToolProvider;

/**
 * What README.md shows of the class's use is what the class answers. Its Java blocks, one after the
 * other, are made into one method in which each answer that is shown beside a call is looked at.
 */
public final class ReadmeTest {
    private static final Pattern CALL = Pattern.compile(
        "\\s*(?:int (\\w+) = )?(x\\.\\w+\\([^;]*\\));\\s+// (-?\\d+|true|false|NONE|FULL|STALE)\\b.*");
    private static final Pattern PRINT = Pattern.compile(
        "\\s*System\\.out\\.println\\((.*)\\);\\s+// prints (-?\\d+(?:, then -?\\d+)*)");

    private ReadmeTest() {}

    public static void main(String[] args) throws Exception {
        List<String> shown = shownLines(Files.readAllLines(Path.of("README.md")));
        everyMethodIsShown(String.join("\n", shown));
        List<String> due = new ArrayList<>();
        List<String> code = new ArrayList<>();
        for (String line : shown) {
            code.add(looking(line, due));
        }
        List<String> printed = new ArrayList<>();
        run(code, printed);
        Check.due("README.md: prints " + due + ", printed was " + printed, printed.equals(due), true);
        Check.end();
    }

    private static List<String> shownLines(List<String> readme) {
        List<String> shown = new ArrayList<>();
        boolean inside = false;
        for (String line : readme) {
            if (line.startsWith("```")) {
                inside = line.equals("```java");
            } else if (inside) {
                shown.add(line);
            }
        }
        return shown;
    }

    private static void everyMethodIsShown(String shown) {
        for (Method m : TripleTrees.class.getDeclaredMethods()) {
            if (Modifier.isPublic(m.getModifiers())) {
                Check.due("README.md shows " + m.getName(), shown.contains("x." + m.getName() + "("), true);
            }
        }
    }

    /** The line with what looks at its answer; what it prints is kept in due. */
    private static String looking(String line, List<String> due) {
        Matcher print = PRINT.matcher(line);
        if (print.matches()) {
            due.addAll(List.of(print.group(2).split(", then ")));
            return "printed.add(String.valueOf(" + print.group(1) + "));";
        }
        Matcher call = CALL.matcher(line);
        if (!call.matches()) {
            boolean isCall = line.matches("\\s*(x\\.|int |System\\.).*");
            Check.due("README.md shows no answer: " + line, isCall, false);
            return line;
        }
        String answer = call.group(3).matches("[A-Z]+") ? "TripleTrees." + call.group(3) : call.group(3);
        String name = call.group(1);
        String got = name == null ? call.group(2) : name;
        String looks = "Check.due(\"README.md: " + call.group(2) + "\", " + got + ", " + answer + ");";
        return name == null ? looks : "int " + name + " = " + call.group(2) + "; " + looks;
    }

    private static void run(List<String> code, List<String> printed) throws Exception {
        // Beside this class, so that what is shown may use Check.
        Path classes = Path.of(ReadmeTest.class.getProtectionDomain().getCodeSource().getLocation().toURI());
        Path source = classes.resolve("ReadmeUse.java");
        Files.writeString(source, "final class ReadmeUse {\n"
            + "static void run(java.util.List<String> printed) {\n" + String.join("\n", code) + "\n}\n}\n");
        JavaCompiler compiler = ToolProvider.getSystemJavaCompiler();
        boolean compiled = compiler != null && compiler.run(null, null, null,
            "-cp", classes.toString(), "-d", classes.toString(), source.toString()) == 0;
        Check.due("README.md: what it shows compiles", compiled, true);
        if (compiled) {
            Method use = Class.forName("ReadmeUse").getDeclaredMethod("run", List.class);
            use.invoke(null, printed);
        }
    }
}
