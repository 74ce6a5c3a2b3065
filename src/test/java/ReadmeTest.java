import java.io.IOException;
import java.lang.reflect.InvocationTargetException;
import java.net.URL;
import java.net.URLClassLoader;
import java.nio.file.Files;
import java.nio.file.Path;
import java.util.ArrayList;
import java.util.List;
import java.util.Map;
import java.util.TreeMap;
import java.util.regex.Matcher;
import java.util.regex.Pattern;
import javax.tools.JavaCompiler;
import javax.tools.ToolProvider;

/** README.md: its Java compiles and answers what it says, and its table names each call with its promise. */
public final class ReadmeTest {
    private static final List<String> WRONG = new ArrayList<>();
    private static int answers;

    private static List<String> javaBlocks(String page) {
        List<String> blocks = new ArrayList<>();
        Matcher m = Pattern.compile("(?s)```java\n(.*?)```").matcher(page);
        while (m.find()) {
            blocks.add(m.group(1));
        }
        return blocks;
    }

    /** A line 'days.f(..);  // answer: words' becomes a line of the list that the made class answers. */
    private static String made(String helper, String example) {
        StringBuilder s = new StringBuilder("public class ReadmeRun {\n" + helper);
        s.append("public static java.util.List<String> go() {\njava.util.List<String> got = new java.util.ArrayList<>();\n");
        for (String line : example.split("\n")) {
            Matcher m = Pattern.compile("(days\\..*);\\s+// (-?\\w+): .*").matcher(line);
            if (m.matches()) {
                answers++;
                s.append("try { got.add(String.valueOf(").append(m.group(1)).append(")); }\n");
                s.append("catch (RuntimeException e) { got.add(e.getClass().getSimpleName()); }\n");
            } else {
                s.append(line).append("\n");
            }
        }
        return s.append("return got; } }\n").toString();
    }

    private static List<String> due(String example) {
        List<String> due = new ArrayList<>();
        Matcher m = Pattern.compile("days\\..*;\\s+// (-?\\w+): .*").matcher(example);
        while (m.find()) {
            due.add(m.group(1));
        }
        return due;
    }

    private static List<?> run(String source) throws IOException, ReflectiveOperationException {
        Path dir = Files.createTempDirectory("readme");
        Path file = dir.resolve("ReadmeRun.java");
        Files.writeString(file, source);
        JavaCompiler javac = ToolProvider.getSystemJavaCompiler();
        String path = System.getProperty("java.class.path");
        if (javac.run(null, null, null, "-cp", path, "-d", dir.toString(), file.toString()) != 0) {
            WRONG.add("the page's Java does not compile");
            return List.of();
        }
        try (URLClassLoader loader = new URLClassLoader(new URL[] {dir.toUri().toURL()})) {
            return (List<?>) loader.loadClass("ReadmeRun").getMethod("go").invoke(null);
        } catch (InvocationTargetException e) {
            WRONG.add("the page's Java throws " + e.getCause());
            return List.of();
        } finally {
            for (String name : new String[] {"ReadmeRun.java", "ReadmeRun.class"}) {
                Files.deleteIfExists(dir.resolve(name));
            }
            Files.deleteIfExists(dir);
        }
    }

    private static Map<String, String> promises(String text, String pattern, int name, int number) {
        Map<String, String> by = new TreeMap<>();
        Matcher m = Pattern.compile(pattern).matcher(text);
        while (m.find()) {
            by.put(m.group(name), m.group(number));
        }
        return by;
    }

    public static void main(String[] args) throws IOException, ReflectiveOperationException {
        String page = Files.readString(Path.of("README.md"));
        List<String> blocks = javaBlocks(page);
        if (blocks.size() != 2) {
            WRONG.add("the page has " + blocks.size() + " blocks of Java");
        } else {
            List<?> got = run(made(blocks.get(0), blocks.get(1)));
            List<String> due = due(blocks.get(1));
            if (!got.equals(due)) {
                WRONG.add("answered " + got + ", the page says " + due);
            }
        }
        Map<String, String> told = promises(page, "`(\\w+)` (\\d+)", 1, 2);
        Map<String, String> face = promises(Files.readString(Path.of("../shared/DOC.md")), "## Promise (\\d+): (\\w+)\n", 2, 1);
        if (!told.equals(face) || face.size() != 41) {
            WRONG.add("the table says " + told + ", the document " + face);
        }
        if (answers < 20) {
            WRONG.add("only " + answers + " answers stand on the page");
        }
        WRONG.forEach(System.out::println);
        System.out.println(answers + " answers of the page, " + WRONG.size() + " wrong");
        if (!WRONG.isEmpty()) {
            System.exit(1);
        }
    }
}
