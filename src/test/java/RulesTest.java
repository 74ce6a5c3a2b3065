import java.io.File;
import java.io.IOException;
import java.io.PrintWriter;
import java.io.StringWriter;
import java.net.URISyntaxException;
import java.nio.file.Files;
import java.nio.file.Path;
import java.util.ArrayList;
import java.util.HashSet;
import java.util.List;
import java.util.Map;
import java.util.Optional;
import java.util.Set;
import java.util.TreeMap;
import java.util.TreeSet;
import java.util.regex.Matcher;
import java.util.regex.Pattern;
import java.util.spi.ToolProvider;

/** The rules of LANGUAGE.md that can be seen in the source by its text, and how deep its calls go. */
public final class RulesTest {
    private static final List<String> WRONG = new ArrayList<>();

    private static String bare(String source) {
        return source.replaceAll("(?s)/\\*.*?\\*/", "").replaceAll("//[^\n]*", "");
    }

    private static void none(String source, String rule, String... patterns) {
        for (String p : patterns) {
            Matcher m = Pattern.compile(p).matcher(source);
            if (m.find()) {
                WRONG.add("rule " + rule + ": '" + m.group() + "'");
            }
        }
    }

    private static void imports(String source) {
        Matcher m = Pattern.compile("import ([^;]+);").matcher(source);
        while (m.find()) {
            if (!m.group(1).equals("java.util.Arrays") && !m.group(1).equals("java.util.NoSuchElementException")) {
                WRONG.add("rule 4: import " + m.group(1));
            }
        }
    }

    private static void calls(String source) {
        Set<String> fine = Set.of("Arrays.fill", "System.arraycopy", "Math.min", "Math.max", "Math.abs", "Integer.bitCount");
        Matcher m = Pattern.compile("\\b(Arrays|System|Math|Integer|Long|String|List)\\.(\\w+)").matcher(source);
        while (m.find()) {
            if (!fine.contains(m.group())) {
                WRONG.add("rule 4: " + m.group());
            }
        }
    }

    private static void methods(String source) {
        Pattern head = Pattern.compile("^( +)((?:public |private |static |final )*)([\\w\\[\\]]+) (\\w+)\\(([^)]*)\\)([^;{]*)\\{$");
        Set<String> face = new HashSet<>();
        List<String[]> inner = new ArrayList<>();
        String[] lines = source.split("\n");
        String joined = "";
        for (int i = 0; i < lines.length; i++) {
            joined = joined.isEmpty() ? lines[i] : joined + " " + lines[i].trim();
            if (lines[i].endsWith(")") && i + 1 < lines.length && lines[i + 1].trim().startsWith("throws")) {
                continue;
            }
            Matcher m = head.matcher(joined);
            joined = "";
            if (!m.matches() || m.group(3).equals("new") || m.group(3).equals("return") || m.group(3).equals("else")) {
                continue;
            }
            int to = i;
            while (to < lines.length && !lines[to].equals(m.group(1) + "}")) {
                to++;
            }
            if (to - i > 60) {
                WRONG.add("rule 11: " + m.group(4) + " has " + (to - i) + " lines");
            }
            if (m.group(5).split(",").length > 7) {
                WRONG.add("rule 11: " + m.group(4) + " has too many parameters");
            }
            if (m.group(2).startsWith("public")) {
                face.add(m.group(4));
            } else {
                inner.add(new String[] {m.group(4), m.group(2)});
            }
        }
        if (face.size() != 41 || inner.size() < 60) {
            WRONG.add("the methods were read as " + face.size() + " and " + inner.size());
        }
        for (String[] i : inner) {
            if (face.contains(i[0])) {
                WRONG.add("rule 1: " + i[0] + " bears the name of a public method");
            }
        }
    }

    /** Which method calls which, as javap tells it; "PaneDays$Law.read" by what it calls. */
    private static Map<String, Set<String>> callsOf(ToolProvider javap) throws URISyntaxException {
        File[] files = new File(PaneDays.class.getProtectionDomain().getCodeSource().getLocation().toURI()).listFiles();
        StringWriter told = new StringWriter();
        List<String> args = new ArrayList<>(List.of("-c", "-p"));
        for (File f : files == null ? new File[0] : files) {
            if (f.getName().matches("PaneDays(\\$\\w+)?\\.class")) {
                args.add(f.getPath());
            }
        }
        PrintWriter out = new PrintWriter(told);
        javap.run(out, out, args.toArray(new String[0]));
        Map<String, Set<String>> calls = new TreeMap<>();
        Pattern type = Pattern.compile("^[a-z ]*class (\\S+).*");
        Pattern method = Pattern.compile("^  \\w.*?([\\w$]+)\\(.*");
        Pattern call = Pattern.compile(".* invoke\\w+ .*// (?:Interface)?Method ([^:]+):.*");
        String in = "";
        String from = "";
        for (String line : told.toString().split("\n")) {
            Matcher t = type.matcher(line);
            Matcher m = method.matcher(line);
            Matcher c = call.matcher(line);
            if (t.matches()) {
                in = t.group(1);
            } else if (m.matches()) {
                from = in + "." + m.group(1);
                calls.put(from, new TreeSet<>());
            } else if (c.matches()) {
                calls.get(from).add(c.group(1).contains(".") ? c.group(1) : in + "." + c.group(1));
            }
        }
        return calls;
    }

    private static List<String> deepest(Map<String, Set<String>> calls, String from, Set<String> open) {
        List<String> best = new ArrayList<>();
        open.add(from);
        for (String to : calls.getOrDefault(from, Set.of())) {
            if (!open.contains(to)) {
                List<String> way = deepest(calls, to, open);
                best = way.size() > best.size() ? way : best;
            }
        }
        open.remove(from);
        best.add(0, from);
        return best;
    }

    /** The library's own methods at the end of a row are counted too. */
    private static void depths() throws URISyntaxException {
        Optional<ToolProvider> javap = ToolProvider.findFirst("javap");
        if (javap.isEmpty()) {
            System.out.println("no javap here: how deep calls go was not looked at");
            return;
        }
        Map<String, Set<String>> calls = callsOf(javap.get());
        int most = 0;
        for (String from : calls.keySet()) {
            List<String> row = deepest(calls, from, new HashSet<>());
            most = Math.max(most, row.size());
            if (row.size() > 8) {
                WRONG.add("rule 11: " + row.size() + " calls deep: " + row);
            }
        }
        if (calls.size() < 100 || most < 5) {
            WRONG.add("the calls were read as " + calls.size() + " methods, " + most + " deep");
        }
    }

    public static void main(String[] args) throws IOException, URISyntaxException {
        String source = bare(Files.readString(Path.of("src/main/java/PaneDays.java")));
        imports(source);
        calls(source);
        methods(source);
        depths();
        none(source, "2", "->", "::", "\\benum\\b.*[{]\\s*$", "new \\w+\\([^)]*\\) *\\{");
        none(source, "3", "\\[\\]\\[\\]", "\\bdouble\\b", "\\bfloat\\b", "[^\\x00-\\x7F]", "\\bObject\\b", "\\bMap\\b");
        none(source, "5", "static (?!final|int|boolean|void)(?!final class)\\w+ \\w+ *=", "static \\{", "static int \\w+( =|;)");
        none(source, "6", "\\bcatch\\b", "\\bfinally\\b", "\\bassert\\b", "\\bsynchronized\\b", "throw new (?!IllegalArgumentException\\(\\)|NoSuchElementException\\(\\)|IndexOutOfBoundsException\\(\\))");
        none(source, "9", "while \\(true\\)", "for \\(;;\\)");
        none(source, "10", "\" *\\+", "\\+ *\"");
        int classes = source.split("\\bclass \\w").length - 1;
        if (classes > 12) {
            WRONG.add("rule 11: " + classes + " classes");
        }
        WRONG.forEach(System.out::println);
        System.out.println(classes + " classes, " + WRONG.size() + " rules broken");
        if (!WRONG.isEmpty()) {
            System.exit(1);
        }
    }
}
