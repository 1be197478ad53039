import java.io.IOException;
import java.net.URL;
import java.net.URLClassLoader;
import java.nio.file.Files;
import java.nio.file.Path;
import java.util.ArrayList;
import java.util.List;
import java.util.regex.Matcher;
import java.util.regex.Pattern;
import javax.tools.ToolProvider;

/** The examples of README.md: each call that has a number behind // answers so. */
public final class ReadmeTest {
    private static final Pattern BLOCK = Pattern.compile("```java\n(.*?)```", Pattern.DOTALL);
    private static final Pattern ANSWERED = Pattern.compile("(?:int (\\w+) = )?(crews\\..*); +// (-?\\d+)\\b.*");

    public static void main(String[] args) throws IOException, ReflectiveOperationException {
        Check check = new Check("ReadmeTest");
        Matcher block = BLOCK.matcher(Files.readString(Path.of("README.md")));
        int examples = 0;
        while (block.find()) {
            examples++;
            run("Example" + examples, block.group(1), check);
        }
        check.holds("there are examples", examples > 0);
        check.end();
    }

    private static void run(String name, String block, Check check) throws IOException, ReflectiveOperationException {
        List<String> calls = new ArrayList<>();
        List<Integer> due = new ArrayList<>();
        StringBuilder body = new StringBuilder();
        for (String line : block.split("\n")) {
            Matcher answered = ANSWERED.matcher(line);
            if (answered.matches()) {
                String variable = answered.group(1) == null ? "answer" + calls.size() : answered.group(1);
                body.append("int ").append(variable).append(" = ").append(answered.group(2)).append(";\n");
                body.append("got[").append(calls.size()).append("] = ").append(variable).append(";\n");
                calls.add(answered.group(2));
                due.add(Integer.valueOf(answered.group(3)));
            } else {
                body.append(line).append('\n');
            }
        }
        int[] got = new int[calls.size()];
        Path folder = Files.createTempDirectory("readme");
        Path source = folder.resolve(name + ".java");
        Files.writeString(source, "public class " + name + " { public static void run(int[] got) {\n" + body + "} }\n");
        int status = ToolProvider.getSystemJavaCompiler().run(null, null, null,
            "-proc:none", "-cp", System.getProperty("java.class.path"), "-d", folder.toString(), source.toString());
        check.due(name + " compiles", status, 0);
        if (status == 0) {
            call(name, folder, got);
            for (int n = 0; n < got.length; n++) {
                check.due(name + ": " + calls.get(n), got[n], due.get(n));
            }
        }
        check.holds(name + " tells answers", got.length > 0);
        Files.deleteIfExists(source);
        Files.deleteIfExists(folder.resolve(name + ".class"));
        Files.delete(folder);
    }

    private static void call(String name, Path folder, int[] got) throws IOException, ReflectiveOperationException {
        try (URLClassLoader loader = new URLClassLoader(new URL[] {folder.toUri().toURL()})) {
            loader.loadClass(name).getMethod("run", int[].class).invoke(null, (Object) got);
        }
    }
}
