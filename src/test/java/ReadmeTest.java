import java.io.IOException;
import java.net.URISyntaxException;
import java.nio.file.Files;
import java.nio.file.Path;
import java.util.ArrayList;
import java.util.List;
import java.util.regex.Matcher;
import java.util.regex.Pattern;
import javax.tools.ToolProvider;

/** The examples of README.md compile, run, and answer what their comments say. */
public final class ReadmeTest {
    private static final Pattern EXAMPLE = Pattern.compile("(?ms)^```java\n(.*?)^```$");
    private static final Pattern CLAIM = Pattern.compile("(\\S.*);\\s+// (answers|throws) ([^:]+)(:.*)?");
    private static final String NAME = "ReadmeExamples";

    public static void main(String[] args) throws IOException, ReflectiveOperationException, URISyntaxException {
        List<String> examples = examplesOf(Files.readString(Path.of("README.md")));
        Check.same("README.md has examples", examples.isEmpty(), false);
        if (compiles(programOf(examples))) {
            run(examples.size());
        }
        Check.end();
    }

    private static List<String> examplesOf(String text) {
        List<String> found = new ArrayList<>();
        Matcher example = EXAMPLE.matcher(text);
        while (example.find()) {
            found.add(example.group(1));
        }
        return found;
    }

    private static String programOf(List<String> examples) {
        StringBuilder program = new StringBuilder("import java.util.ArrayList;\nimport java.util.List;\n");
        program.append("public final class ").append(NAME).append(" {\n");
        for (int i = 0; i < examples.size(); i++) {
            program.append("public static void example").append(i).append("() {\n");
            examples.get(i).lines().forEach(line -> program.append(checked(line)).append('\n'));
            program.append("}\n");
        }
        return program.append("}\n").toString();
    }

    /** A line that says what its call answers or throws, as a check of that. */
    private static String checked(String line) {
        Matcher claim = CLAIM.matcher(line);
        if (!claim.matches()) {
            return line;
        }
        String call = claim.group(1);
        String told = claim.group(3).trim();
        // Only a call that answers can be a lambda's value; one that throws may answer nothing.
        return claim.group(2).equals("answers")
            ? check(call, told, call)
            : check(call, "throws." + told, "{ " + call + "; return \"\"; }");
    }

    private static String check(String call, String due, String body) {
        return "Check.answers(\"README.md: " + call.replace("\"", "\\\"") + "\", \"" + due + "\", () -> " + body + ");";
    }

    /** The program goes where this test's own classes are, so that it can use those that only the package sees. */
    private static boolean compiles(String program) throws IOException, URISyntaxException {
        Path place = Path.of(ReadmeTest.class.getProtectionDomain().getCodeSource().getLocation().toURI());
        Path source = Files.writeString(place.resolve(NAME + ".java"), program);
        int code = ToolProvider.getSystemJavaCompiler().run(null, null, null,
            "-cp", place.toString(), "-d", place.toString(), source.toString());
        Check.same("the examples of README.md compile", code == 0, true);
        return code == 0;
    }

    private static void run(int examples) throws ReflectiveOperationException {
        Class<?> program = Class.forName(NAME);
        for (int i = 0; i < examples; i++) {
            program.getMethod("example" + i).invoke(null);
        }
    }
}
