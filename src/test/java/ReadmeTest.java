import java.io.IOException;
import java.lang.reflect.Method;
import java.lang.reflect.Modifier;
import java.net.URL;
import java.net.URLClassLoader;
import java.nio.file.Files;
import java.nio.file.Path;
import java.util.ArrayList;
import java.util.List;
import java.util.regex.Matcher;
import java.util.regex.Pattern;
import javax.tools.JavaCompiler;
import javax.tools.ToolProvider;

/** The examples of README.md are compiled as they stand there, and give what is said behind each call. */
public final class ReadmeTest {
    private static final Pattern BLOCK = Pattern.compile("(?s)```java\n(.*?)```");
    /** A statement that is one call, perhaps with a name for its answer, and the answer behind it. */
    private static final Pattern TOLD = Pattern.compile("(int \\w+ = )?(.*\\));\\s+// (-?\\d+): .*");

    private ReadmeTest() { }

    public static void main(String[] args) throws IOException, ReflectiveOperationException {
        String page = Files.readString(Path.of("README.md"));
        int missing = callsNotNamed(page);
        int wrong = run(sourceOf(page));
        System.out.println(missing + wrong == 0 ? "the examples hold" : missing + wrong + " things are wrong in README.md");
        System.exit(missing + wrong == 0 ? 0 : 1);
    }

    private static int callsNotNamed(String page) {
        int missing = 0;
        for (Method method : NestedClips.class.getDeclaredMethods()) {
            if (Modifier.isPublic(method.getModifiers()) && !page.contains("`" + method.getName() + "`")) {
                System.out.println("README.md does not name " + method.getName());
                missing++;
            }
        }
        return missing;
    }

    /** Blocks that begin with "static" are methods of the class; each other one becomes a method of its own. */
    private static String sourceOf(String page) {
        StringBuilder source = new StringBuilder("public class Examples {\nstatic int wrong;\n"
                + "static int due(String call, int got, int want) {\nif (got != want) {\nwrong++;\n"
                + "System.out.println(call + \" gave \" + got + \", README.md says \" + want);\n}\nreturn got;\n}\n");
        List<String> examples = new ArrayList<>();
        Matcher block = BLOCK.matcher(page);
        while (block.find()) {
            if (block.group(1).startsWith("static")) {
                source.append(block.group(1));
            } else {
                examples.add(block.group(1));
            }
        }
        StringBuilder all = new StringBuilder("public static int all() {\n");
        for (int i = 0; i < examples.size(); i++) {
            source.append("static void example").append(i).append("() {\n").append(checked(examples.get(i))).append("}\n");
            all.append("example").append(i).append("();\n");
        }
        return source.append(all).append("return wrong;\n}\n}\n").toString();
    }

    private static String checked(String example) {
        StringBuilder checked = new StringBuilder();
        for (String line : example.split("\n")) {
            Matcher told = TOLD.matcher(line);
            if (told.matches()) {
                String name = told.group(1) == null ? "" : told.group(1);
                String call = told.group(2);
                checked.append(name).append("due(\"").append(call.replace("\"", "'")).append("\", ").append(call)
                        .append(", ").append(told.group(3)).append(");\n");
            } else if (line.startsWith("NestedClips ")) {
                checked.append(line).append("\n");
            } else {
                throw new IllegalStateException("what does this line of README.md give? " + line);
            }
        }
        return checked.toString();
    }

    private static int run(String source) throws IOException, ReflectiveOperationException {
        Path place = Files.createTempDirectory("readme");
        Path file = place.resolve("Examples.java");
        Files.writeString(file, source);
        JavaCompiler javac = ToolProvider.getSystemJavaCompiler();
        int failed = javac.run(null, null, null, "-d", place.toString(), "-cp", System.getProperty("java.class.path"),
                file.toString());
        int wrong = 1;
        if (failed == 0) {
            try (URLClassLoader loader = new URLClassLoader(new URL[] {place.toUri().toURL()})) {
                wrong = (int) loader.loadClass("Examples").getMethod("all").invoke(null);
            }
        }
        try (var made = Files.list(place)) {
            for (Path one : made.toList()) {
                Files.delete(one);
            }
        }
        Files.delete(place);
        return wrong;
    }
}
