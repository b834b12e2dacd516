import java.io.File;
import java.lang.reflect.Method;
import java.lang.reflect.Modifier;
import java.net.URL;
import java.net.URLClassLoader;
import java.nio.file.Files;
import java.nio.file.Path;
import java.util.ArrayList;
import java.util.List;
import java.util.regex.Matcher;
import java.util.regex.Pattern;
import javax.tools.ToolProvider;

/** README.md: its examples answer what stands beside them, and it names every call. */
public final class ReadmeTest {
    private static final Due DUE = new Due("ReadmeTest");
    private static final Pattern BLOCK = Pattern.compile("```java\n(.*?)```", Pattern.DOTALL);
    private static final Pattern CALL = Pattern.compile("(street\\.\\w+\\(.*?\\)); *// (-?\\d+)(:.*)?");

    public static void main(String[] args) throws Exception {
        String readme = Files.readString(Path.of("README.md"));
        List<String> blocks = new ArrayList<>();
        Matcher block = BLOCK.matcher(readme);
        while (block.find()) blocks.add(block.group(1));
        everyCallIsNamed(readme);
        everyCallHasAnAnswer(blocks);
        answersAreAsTold(blocks);
        DUE.end();
    }

    private static void everyCallIsNamed(String readme) {
        for (Method call : ChalkStreet.class.getDeclaredMethods()) {
            if (!Modifier.isPublic(call.getModifiers())) continue;
            DUE.holds("an example of " + call.getName(), readme.contains("street." + call.getName() + "("));
        }
    }

    private static void everyCallHasAnAnswer(List<String> blocks) {
        for (String block : blocks) {
            for (String line : block.split("\n")) {
                if (line.startsWith("street.")) DUE.holds(line, CALL.matcher(line).matches());
            }
        }
    }

    private static void answersAreAsTold(List<String> blocks) throws Exception {
        Path out = Files.createTempDirectory("readme");
        try {
            Path source = out.resolve("ReadmeRun.java");
            Files.writeString(source, program(blocks));
            int wrong = ToolProvider.getSystemJavaCompiler().run(null, null, null,
                "-cp", System.getProperty("java.class.path"), "-d", out.toString(), source.toString());
            DUE.is("javac of the examples", wrong, 0);
            if (wrong == 0) run(out);
        } finally {
            for (File file : out.toFile().listFiles()) file.delete();
            Files.delete(out);
        }
    }

    /** Each block is a run on a new object, or a method that the others call. */
    private static String program(List<String> blocks) {
        StringBuilder program = new StringBuilder("public class ReadmeRun {\n");
        StringBuilder runs = new StringBuilder();
        for (String block : blocks) {
            if (block.startsWith("static ")) program.append(block);
            else runs.append("{\n").append(CALL.matcher(block).replaceAll("due.add(new Object[] {\"$1\", (long) $1, $2L});")).append("}\n");
        }
        program.append("public static void run(java.util.List<Object[]> due) {\n").append(runs);
        return program.append("}\n}\n").toString();
    }

    private static void run(Path out) throws Exception {
        List<Object[]> due = new ArrayList<>();
        try (URLClassLoader loader = new URLClassLoader(new URL[] {out.toUri().toURL()})) {
            loader.loadClass("ReadmeRun").getMethod("run", List.class).invoke(null, due);
        }
        for (Object[] d : due) DUE.is((String) d[0], (Long) d[1], (Long) d[2]);
    }
}
