import java.lang.reflect.InvocationTargetException;
import java.lang.reflect.Method;
import java.util.ArrayList;
import java.util.List;

/**
 * Calls on one new object, written a line each: "told 3 = 5" answers 5, "told 9 ! IllegalArgument" throws that
 * exception, "street 'pane 1 1 0 0;' = 1" feeds the text and takes all of it.
 */
final class Script {
    private static int wrong;
    private static int asked;
    private final String name;
    private final PaneDays days = new PaneDays();

    private Script(String name) {
        this.name = name;
    }

    static void run(String name, String... lines) {
        Script s = new Script(name);
        for (String line : lines) {
            s.line(line);
        }
    }

    static int wrong() {
        return wrong;
    }

    static int asked() {
        return asked;
    }

    private void line(String line) {
        int at = Math.max(line.lastIndexOf(" = "), line.lastIndexOf(" ! "));
        String call = line.substring(0, at).trim();
        String due = line.substring(at + 3).trim();
        int quote = call.indexOf('\'');
        String answer;
        if (quote >= 0) {
            String text = call.substring(quote + 1, call.length() - 1);
            feed(text);
            answer = answer(call.substring(0, quote).trim(), new int[] {text.length()});
        } else {
            String[] parts = call.split(" +");
            int[] args = new int[parts.length - 1];
            for (int i = 0; i < args.length; i++) {
                args[i] = Integer.parseInt(parts[i + 1]);
            }
            answer = answer(parts[0], args);
        }
        asked++;
        if (!answer.equals(line.charAt(at + 1) == '!' ? due + "Exception" : due)) {
            wrong++;
            System.out.println(name + ": " + call + " answered " + answer + ", due is " + due);
        }
    }

    private void feed(String text) {
        for (int i = 0; i < text.length(); i += 20) {
            days.feed(Texts.four(text, i), Texts.four(text, i + 4), Texts.four(text, i + 8), Texts.four(text, i + 12),
                Texts.four(text, i + 16));
        }
    }

    private String answer(String method, int[] args) {
        List<Class<?>> types = new ArrayList<>();
        List<Object> values = new ArrayList<>();
        for (int a : args) {
            types.add(int.class);
            values.add(a);
        }
        try {
            Method m = PaneDays.class.getMethod(method, types.toArray(new Class<?>[0]));
            return String.valueOf(m.invoke(days, values.toArray()));
        } catch (InvocationTargetException e) {
            return e.getCause().getClass().getSimpleName();
        } catch (ReflectiveOperationException e) {
            return e.toString();
        }
    }
}
