import java.lang.reflect.Method;
import java.lang.reflect.Modifier;
import java.nio.file.Files;
import java.nio.file.Path;
import java.security.CodeSource;
import java.util.Set;
import java.util.TreeSet;
import java.util.regex.Matcher;
import java.util.regex.Pattern;
import javax.tools.JavaCompiler;
import javax.tools.ToolProvider;

/** README.md: its example answers as it says, and its table has every call of the class. */
public final class ReadmeTest {
    private static final Path README = Path.of("README.md");
    private static final Pattern EXAMPLE = Pattern.compile("(?s)```java\n(.*?)```");
    private static final Pattern ANSWERED = Pattern.compile("(.*?); +// ([^:]+)(:.*)?");
    private static final Pattern ROW = Pattern.compile("(?m)^\\| `(\\w+)\\(([^)]*)\\)`");

    public static void main(String[] args) throws Exception {
        String readme = Files.readString(README);
        Check check = new Check();
        check.same("README.md: the table's calls", callsOfClass().toString(),
                callsOfTable(readme).toString());
        Matcher example = EXAMPLE.matcher(readme);
        check.same("README.md has an example", "true", String.valueOf(example.find()));
        runExample(check, example.group(1));
        check.end();
    }

    private static Set<String> callsOfClass() {
        Set<String> calls = new TreeSet<>();
        for (Method m : ProbeChoice.class.getDeclaredMethods()) {
            if (Modifier.isPublic(m.getModifiers())) {
                calls.add(m.getName() + "/" + m.getParameterCount());
            }
        }
        return calls;
    }

    private static Set<String> callsOfTable(String readme) {
        Set<String> calls = new TreeSet<>();
        Matcher row = ROW.matcher(readme);
        while (row.find()) {
            int count = row.group(2).isEmpty() ? 0 : row.group(2).split(",").length;
            calls.add(row.group(1) + "/" + count);
        }
        return calls;
    }

    /** The example becomes the main part of a class that checks each answer it tells of. */
    private static void runExample(Check check, String example) throws Exception {
        StringBuilder source = new StringBuilder("final class Example {\n");
        source.append("static void run(Check check) {\n");
        for (String line : example.split("\n")) {
            Matcher answered = ANSWERED.matcher(line);
            if (answered.matches()) {
                source.append("check.due(\"README.md: ").append(answered.group(1)).append("\", ");
                source.append(answered.group(2)).append(", () -> ").append(answered.group(1));
                source.append(");\n");
            } else {
                source.append(line).append("\n");
            }
        }
        source.append("}\n}\n");
        runClass(check, source.toString());
    }

    /** It is compiled beside this class, as it uses classes that only their own package sees. */
    private static void runClass(Check check, String source) throws Exception {
        JavaCompiler compiler = ToolProvider.getSystemJavaCompiler();
        if (compiler == null) {
            System.out.println("this java has no compiler inside: the example was not run");
            return;
        }
        CodeSource here = ReadmeTest.class.getProtectionDomain().getCodeSource();
        Path folder = Path.of(here.getLocation().toURI());
        Path file = folder.resolve("Example.java");
        Files.writeString(file, source);
        int failed = compiler.run(null, null, null,
                "-cp", folder.toString(), "-d", folder.toString(), file.toString());
        check.same("README.md: the example compiles", "0", String.valueOf(failed));
        if (failed == 0) {
            Method run = Class.forName("Example").getDeclaredMethod("run", Check.class);
            run.invoke(null, check);
        }
    }
}
