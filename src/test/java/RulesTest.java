import java.io.IOException;
import java.nio.file.Files;
import java.nio.file.Path;
import java.util.ArrayList;
import java.util.HashSet;
import java.util.List;
import java.util.Set;
import java.util.regex.Matcher;
import java.util.regex.Pattern;

/** The rules of LANGUAGE.md that can be seen in the source by its text. */
public final class RulesTest {
    private static final List<String> WRONG = new ArrayList<>();

    private static String bare(String source) {
        return source.replaceAll("(?s)/\\*.*?\\*/", "").replaceAll("//[^\n]*", "");
    }

    private static void none(String source, String rule, String... patterns) {
        for (String p : patterns) {
            Matcher m = Pattern.compile(p).matcher(source);
            if (m.find()) {
                WRONG.add("rule " + rule + ": '" + m.group() + "'");
            }
        }
    }

    private static void imports(String source) {
        Matcher m = Pattern.compile("import ([^;]+);").matcher(source);
        while (m.find()) {
            if (!m.group(1).equals("java.util.Arrays") && !m.group(1).equals("java.util.NoSuchElementException")) {
                WRONG.add("rule 4: import " + m.group(1));
            }
        }
    }

    private static void calls(String source) {
        Set<String> fine = Set.of("Arrays.fill", "System.arraycopy", "Math.min", "Math.max", "Math.abs", "Integer.bitCount",
            "Integer.MAX_VALUE");
        Matcher m = Pattern.compile("\\b(Arrays|System|Math|Integer|Long|String|List)\\.(\\w+)").matcher(source);
        while (m.find()) {
            if (!fine.contains(m.group())) {
                WRONG.add("rule 4: " + m.group());
            }
        }
    }

    private static void methods(String source) {
        Pattern head = Pattern.compile("^( +)((?:public |private |static |final )*)([\\w\\[\\]]+) (\\w+)\\(([^)]*)\\)([^;{]*)\\{$");
        Set<String> face = new HashSet<>();
        List<String[]> inner = new ArrayList<>();
        String[] lines = source.split("\n");
        String joined = "";
        for (int i = 0; i < lines.length; i++) {
            joined = joined.isEmpty() ? lines[i] : joined + " " + lines[i].trim();
            if (lines[i].endsWith(")") && i + 1 < lines.length && lines[i + 1].trim().startsWith("throws")) {
                continue;
            }
            Matcher m = head.matcher(joined);
            joined = "";
            if (!m.matches() || m.group(3).equals("new") || m.group(3).equals("return") || m.group(3).equals("else")) {
                continue;
            }
            int to = i;
            while (to < lines.length && !lines[to].equals(m.group(1) + "}")) {
                to++;
            }
            if (to - i > 60) {
                WRONG.add("rule 11: " + m.group(4) + " has " + (to - i) + " lines");
            }
            if (m.group(5).split(",").length > 7) {
                WRONG.add("rule 11: " + m.group(4) + " has too many parameters");
            }
            if (m.group(2).startsWith("public")) {
                face.add(m.group(4));
            } else {
                inner.add(new String[] {m.group(4), m.group(2)});
            }
        }
        if (face.size() != 41 || inner.size() < 60) {
            WRONG.add("the methods were read as " + face.size() + " and " + inner.size());
        }
        for (String[] i : inner) {
            if (face.contains(i[0])) {
                WRONG.add("rule 1: " + i[0] + " bears the name of a public method");
            }
        }
    }

    public static void main(String[] args) throws IOException {
        String source = bare(Files.readString(Path.of("src/main/java/PaneDays.java")));
        imports(source);
        calls(source);
        methods(source);
        none(source, "2", "->", "::", "\\benum\\b.*[{]\\s*$", "new \\w+\\([^)]*\\) *\\{");
        none(source, "3", "\\[\\]\\[\\]", "\\bdouble\\b", "\\bfloat\\b", "[^\\x00-\\x7F]", "\\bObject\\b", "\\bMap\\b");
        none(source, "5", "static (?!final|int|boolean|void)(?!final class)\\w+ \\w+ *=", "static \\{", "static int \\w+( =|;)");
        none(source, "6", "\\bcatch\\b", "\\bfinally\\b", "\\bassert\\b", "\\bsynchronized\\b", "throw new (?!IllegalArgumentException\\(\\)|NoSuchElementException\\(\\)|IndexOutOfBoundsException\\(\\))");
        none(source, "9", "while \\(true\\)", "for \\(;;\\)");
        none(source, "10", "\" *\\+", "\\+ *\"");
        int classes = source.split("\\bclass \\w").length - 1;
        if (classes > 12) {
            WRONG.add("rule 11: " + classes + " classes");
        }
        WRONG.forEach(System.out::println);
        System.out.println(classes + " classes, " + WRONG.size() + " rules broken");
        if (!WRONG.isEmpty()) {
            System.exit(1);
        }
    }
}
