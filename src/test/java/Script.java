import java.lang.reflect.InvocationTargetException;
import java.lang.reflect.Method;
import java.util.ArrayList;
import java.util.List;

/**
 * Calls on one new object, written a line each: "told 3 = 5" answers 5, "told 9 ! IllegalArgument" throws that
 * exception, "street 'pane 1 1 0 0;' = 1" feeds the text and takes all of it, "tape 'x' = 20" feeds it and asks how
 * many bytes there are, "pass 200 = 200" lets so many DAYS pass by WORKS and asks for the DAY, "new" goes on with
 * another new object.
 */
final class Script {
    private static int wrong;
    private static int asked;
    /** What more calls on one object would answer is free. */
    private static final int CALLS = 512;

    private final String name;
    private PaneDays days = new PaneDays();
    private int calls;

    private Script(String name) {
        this.name = name;
    }

    static void run(String name, String... lines) {
        Script s = new Script(name);
        for (String line : lines) {
            if (line.equals("new")) {
                s.days = new PaneDays();
                s.calls = 0;
            } else {
                s.line(line);
            }
        }
    }

    static int wrong() {
        return wrong;
    }

    static int asked() {
        return asked;
    }

    private void line(String line) {
        int at = Math.max(line.lastIndexOf(" = "), line.lastIndexOf(" ! "));
        String call = line.substring(0, at).trim();
        String due = line.substring(at + 3).trim();
        int quote = call.indexOf('\'');
        String answer;
        if (quote >= 0) {
            String text = call.substring(quote + 1, call.length() - 1);
            feed(text);
            String method = call.substring(0, quote).trim();
            answer = method.equals("tape") ? answer("count", new int[] {1}) : answer(method, new int[] {text.length()});
        } else if (call.startsWith("pass ")) {
            pass(Integer.parseInt(call.substring(5)));
            answer = answer("told", new int[] {3});
        } else {
            String[] parts = call.split(" +");
            int[] args = new int[parts.length - 1];
            for (int i = 0; i < args.length; i++) {
                args[i] = Integer.parseInt(parts[i + 1]);
            }
            answer = answer(parts[0], args);
        }
        asked++;
        if (!answer.equals(line.charAt(at + 1) == '!' ? due + "Exception" : due)) {
            wrong++;
            System.out.println(name + ": " + call + " answered " + answer + ", due is " + due);
        }
    }

    /** One WORK begins 200 STEPS at most, the again among them. */
    private void pass(int n) {
        for (int left = n; left > 0; left -= 190) {
            int now = Math.min(left, 190);
            String text = "again " + now / 10 + "[" + "day;".repeat(10) + "];" + "day;".repeat(now % 10);
            feed(text);
            answer("work", new int[] {text.length()});
        }
    }

    private void feed(String text) {
        for (int i = 0; i < text.length(); i += 20) {
            calls++;
            days.feed(Texts.four(text, i), Texts.four(text, i + 4), Texts.four(text, i + 8), Texts.four(text, i + 12),
                Texts.four(text, i + 16));
        }
    }

    private String answer(String method, int[] args) {
        calls++;
        if (calls > CALLS) {
            return "nothing: too many calls on one object";
        }
        List<Class<?>> types = new ArrayList<>();
        List<Object> values = new ArrayList<>();
        for (int a : args) {
            types.add(int.class);
            values.add(a);
        }
        try {
            Method m = PaneDays.class.getMethod(method, types.toArray(new Class<?>[0]));
            return String.valueOf(m.invoke(days, values.toArray()));
        } catch (InvocationTargetException e) {
            return e.getCause().getClass().getSimpleName();
        } catch (ReflectiveOperationException e) {
            return e.toString();
        }
    }
}
