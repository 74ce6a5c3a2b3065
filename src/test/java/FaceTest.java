import java.io.IOException;
import java.lang.reflect.Constructor;
import java.lang.reflect.Executable;
import java.lang.reflect.Field;
import java.lang.reflect.Method;
import java.lang.reflect.Modifier;
import java.nio.file.Files;
import java.nio.file.Path;
import java.util.ArrayList;
import java.util.List;
import java.util.TreeSet;
import java.util.stream.Collectors;
import java.util.stream.Stream;

/** The public face: just what the document's Java block tells, no more and no less. */
public final class FaceTest {
    private static String signed(Executable e, String head) {
        String params = Stream.of(e.getParameterTypes()).map(Class::getSimpleName).collect(Collectors.joining(", "));
        String thrown = Stream.of(e.getExceptionTypes()).map(Class::getSimpleName).collect(Collectors.joining(", "));
        return head + "(" + params + ")" + (thrown.isEmpty() ? "" : " throws " + thrown);
    }

    private static TreeSet<String> due() throws IOException {
        TreeSet<String> due = new TreeSet<>();
        for (String line : Files.readAllLines(Path.of("../shared/DOC.md"))) {
            String l = line.trim();
            if (l.startsWith("public ") && l.endsWith(";") && !l.contains("class")) {
                l = l.substring(7, l.length() - 1);
                if (l.startsWith("static final")) {
                    due.add(l);
                } else {
                    due.add(l.replaceAll("int [a-z]+(?=[,)])", "int"));
                }
            }
        }
        return due;
    }

    private static TreeSet<String> got(List<String> wrong) throws IllegalAccessException {
        TreeSet<String> got = new TreeSet<>();
        for (Constructor<?> c : PaneDays.class.getDeclaredConstructors()) {
            got.add(signed(c, "PaneDays"));
        }
        for (Method m : PaneDays.class.getDeclaredMethods()) {
            if (Modifier.isPublic(m.getModifiers())) {
                got.add(signed(m, m.getReturnType().getSimpleName() + " " + m.getName()));
            } else if (!Modifier.isPrivate(m.getModifiers())) {
                wrong.add("neither public nor private: " + m);
            }
        }
        for (Field f : PaneDays.class.getDeclaredFields()) {
            if (Modifier.isPublic(f.getModifiers())) {
                got.add("static final int " + f.getName() + " = " + f.get(null));
            } else if (!Modifier.isPrivate(f.getModifiers())) {
                wrong.add("neither public nor private: " + f);
            }
        }
        return got;
    }

    public static void main(String[] args) throws IOException, IllegalAccessException {
        List<String> wrong = new ArrayList<>();
        TreeSet<String> due = due();
        TreeSet<String> got = got(wrong);
        due.stream().filter(s -> !got.contains(s)).forEach(s -> wrong.add("missing: " + s));
        got.stream().filter(s -> !due.contains(s)).forEach(s -> wrong.add("not in the document: " + s));
        if (due.size() != 43) {
            wrong.add("the document's face was read as " + due.size() + " members");
        }
        if (!Modifier.isFinal(PaneDays.class.getModifiers())) {
            wrong.add("the class is not final");
        }
        wrong.forEach(System.out::println);
        System.out.println(got.size() + " members, " + wrong.size() + " wrong");
        if (!wrong.isEmpty()) {
            System.exit(1);
        }
    }
}
