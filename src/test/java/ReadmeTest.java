import java.io.IOException;
import java.nio.file.Files;
import java.nio.file.Path;
import java.util.ArrayList;
import java.util.List;
import java.util.regex.Matcher;
import java.util.regex.Pattern;
import javax.tools.ToolProvider;

/** The examples of README.md run, and answer what stands behind their calls. */
public final class ReadmeTest {
    private static final Pattern EXAMPLE = Pattern.compile("```java\n(.*?)```", Pattern.DOTALL);
    private static final Pattern ANSWERED = Pattern.compile("(?:int (\\w+) = )?(vault\\..*); *// (-?\\d+|true|false)\\b.*");
    private static final Check CHECK = new Check();

    private ReadmeTest() {
    }

    /** What an example calls with each answer. */
    static void due(String call, Object got, String want) {
        CHECK.due(call, String.valueOf(got), want);
    }

    public static void main(String[] args) throws IOException, ReflectiveOperationException {
        List<String> examples = new ArrayList<>();
        Matcher found = EXAMPLE.matcher(Files.readString(Path.of("README.md")));
        while (found.find()) {
            examples.add(found.group(1));
        }
        CHECK.due("examples", examples.size(), 2);
        for (int i = 0; i < examples.size(); i++) {
            run("Example" + i, examples.get(i));
        }
        CHECK.finish("ReadmeTest");
    }

    private static void run(String name, String example) throws IOException, ReflectiveOperationException {
        StringBuilder text = new StringBuilder("public final class " + name + " { public static void run() {\n");
        for (String line : example.split("\n")) {
            text.append(asked(line)).append('\n');
        }
        // Beside the classes of this test, so that its own loader finds the example.
        String place = System.getProperty("java.class.path");
        Path source = Files.writeString(Path.of(place, name + ".java"), text.append("}}\n"));
        int code = ToolProvider.getSystemJavaCompiler().run(null, null, null, "-cp", place, "-d", place, source.toString());
        CHECK.due("compiling " + name, code, 0);
        if (code == 0) {
            Class.forName(name).getMethod("run").invoke(null);
        }
    }

    private static String asked(String line) {
        Matcher answered = ANSWERED.matcher(line);
        if (!answered.matches()) {
            return line;
        }
        String made = answered.group(1) == null ? "Object got" : "int " + answered.group(1);
        String got = answered.group(1) == null ? "got" : answered.group(1);
        String due = "ReadmeTest.due(\"" + answered.group(2) + "\", " + got + ", \"" + answered.group(3) + "\");";
        String call = made + " = " + answered.group(2) + "; " + due;
        return answered.group(1) == null ? "{ " + call + " }" : call;
    }
}
