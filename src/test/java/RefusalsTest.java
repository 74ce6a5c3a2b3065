import java.lang.reflect.InvocationTargetException;
import java.lang.reflect.Method;
import java.util.ArrayList;
import java.util.Arrays;
import java.util.List;

/**
 * Each call that may be refused, with each of its numbers at, below and above its bounds, in all combinations: what it
 * throws, by which reason it is counted, and that it leaves all as it was.
 */
public final class RefusalsTest {
    private static final String STREET =
        "pane 2 3 10 1;pane 4 1 0 0;pane 1 4 60 9;rain 3 1;order 0 1 2 2 4;order 1 3 0 1 3;order 2 0 3 5 9;pace 2 5;hold 5;";
    private static final int[] WIDE = {2, 4, 1};
    private static final int[] HIGH = {3, 1, 4};
    private static final int[] CELLS = {0x333, 0xF, 0x1111};
    private static final int ORDERS = 3;
    /** What calls beyond the 512th answer is free. */
    private static final int CALLS = 512;

    private static final List<String> WRONG = new ArrayList<>();
    private static int asked;

    private static PaneDays days;
    private static int used;
    private static final int[] REFUSED = new int[3];
    private static String before;

    private static int fill(String text) {
        for (int i = 0; i < text.length(); i += 20) {
            days.feed(Texts.four(text, i), Texts.four(text, i + 4), Texts.four(text, i + 8), Texts.four(text, i + 12),
                Texts.four(text, i + 16));
            used++;
        }
        used++;
        return text.length();
    }

    private static void begin() {
        days = new PaneDays();
        used = 0;
        days.street(fill(STREET));
        days.law(fill("2-day%2*x"));
        days.work(fill("day;day;day;cell 0 0 0 1;wipe 1 2;rinse;rinse;"));
        days.work(fill("day;cell 2 0 0 1;"));
        days.book(fill("0 0 1;1 0 0;"));
        days.image();
        days.law(fill("day+"));
        fill("day;");
        used += 1;
        Arrays.fill(REFUSED, 0);
        before = all();
        used += 80;
    }

    /** All that can be asked without being refused; less than 80 calls. */
    private static String all() {
        StringBuilder s = new StringBuilder();
        for (int i = 0; i <= 8; i++) {
            s.append(days.told(i)).append(' ');
        }
        for (int p = 0; p < WIDE.length; p++) {
            s.append(days.pane(p, 5)).append(' ').append(days.tells(p)).append(' ').append(days.showing(p, 0)).append(' ');
            for (int d = 1; d <= 4; d++) {
                s.append(days.have(p, d)).append(' ').append(days.showing(p, d)).append(' ');
            }
        }
        for (int o = 0; o < ORDERS; o++) {
            s.append(days.order(o, 5)).append(' ').append(days.needs(o)).append(' ');
        }
        for (int i = 0; i < 3; i++) {
            s.append(days.count(i)).append(' ');
        }
        return s.append(days.fault()).append(' ').append(days.films(3, 0)).append(' ').append(days.ahead(0, 9, 0))
            .append(' ').append(days.settles(0, 1, 0)).toString();
    }

    private static void end(String method) {
        for (int i = 0; i < 3; i++) {
            if (days.status(i) != REFUSED[i]) {
                WRONG.add(method + ": status " + i + " is " + days.status(i) + ", due is " + REFUSED[i]);
            }
        }
        String after = all();
        if (!after.equals(before)) {
            WRONG.add(method + " changed " + before + " to " + after);
        }
    }

    /** P a PANE, O an ORDER, X and Y of a CELL, C bits of CELLS, B bits of ORDERS, Q a PANE by IllegalArgument, * any, or "1..9". */
    private static int[] values(String kind) {
        switch (kind) {
            case "P":
            case "O":
            case "Q":
                return new int[] {-1, 0, 1, 2, 3, 5, Integer.MIN_VALUE, Integer.MAX_VALUE};
            case "X":
            case "Y":
                return new int[] {-1, 0, 1, 2, 3, 4, Integer.MIN_VALUE, Integer.MAX_VALUE};
            case "C":
                return new int[] {-1, 0, 1, 2, 4, 16, 0xF, 0x333, 0x1111, 0x1000, 0x8000, 0x10000, Integer.MIN_VALUE};
            case "B":
                return new int[] {-1, 0, 1, 4, 7, 8, 15, 1 << 12, 1 << 16, Integer.MIN_VALUE, Integer.MAX_VALUE};
            case "*":
                return new int[] {Integer.MIN_VALUE, -1, 0, 7, Integer.MAX_VALUE};
            default:
                int to = kind.indexOf("..");
                int low = Integer.parseInt(kind.substring(0, to));
                int high = Integer.parseInt(kind.substring(to + 2));
                return new int[] {low - 1, low, high, high + 1, Integer.MIN_VALUE, Integer.MAX_VALUE};
        }
    }

    private static boolean isFine(String kind, int v, int pane) {
        switch (kind) {
            case "P":
            case "Q":
                return v >= 0 && v < WIDE.length;
            case "O":
                return v >= 0 && v < ORDERS;
            case "X":
                return v >= 0 && v < WIDE[pane];
            case "Y":
                return v >= 0 && v < HIGH[pane];
            case "C":
                return (v & ~CELLS[pane]) == 0;
            case "B":
                return (v & ~((1 << ORDERS) - 1)) == 0;
            case "*":
                return true;
            default:
                int to = kind.indexOf("..");
                return v >= Integer.parseInt(kind.substring(0, to)) && v <= Integer.parseInt(kind.substring(to + 2));
        }
    }

    /** 0 IndexOutOfBounds, 1 NoSuchElement, 2 IllegalArgument, -1 none: a PANE or an ORDER comes ahead of all, a CELL next. */
    private static int due(String[] kinds, int[] args) {
        for (int i = 0; i < kinds.length; i++) {
            if ((kinds[i].equals("P") || kinds[i].equals("O")) && !isFine(kinds[i], args[i], 0)) {
                return 1;
            }
        }
        int pane = kinds[0].equals("P") ? args[0] : 0;
        for (int i = 0; i < kinds.length; i++) {
            if ((kinds[i].equals("X") || kinds[i].equals("Y")) && !isFine(kinds[i], args[i], pane)) {
                return 0;
            }
        }
        for (int i = 0; i < kinds.length; i++) {
            if (!isFine(kinds[i], args[i], pane)) {
                return 2;
            }
        }
        return -1;
    }

    private static String name(int reason) {
        return new String[] {"an answer", "IndexOutOfBoundsException", "NoSuchElementException", "IllegalArgumentException"}[reason + 1];
    }

    private static void ask(Method m, int[] args, int due) throws IllegalAccessException {
        asked++;
        Object[] boxed = Arrays.stream(args).boxed().toArray();
        String got;
        try {
            m.invoke(days, boxed);
            got = name(-1);
        } catch (InvocationTargetException e) {
            got = e.getCause().getClass().getSimpleName();
        }
        if (!got.equals(name(due))) {
            WRONG.add(m.getName() + Arrays.toString(args) + " gave " + got + ", due is " + name(due));
        }
        if (due >= 0) {
            REFUSED[due]++;
        }
    }

    private static void of(String line) throws ReflectiveOperationException {
        String[] parts = line.split(" ");
        String[] kinds = Arrays.copyOfRange(parts, 1, parts.length);
        Class<?>[] types = new Class<?>[kinds.length];
        Arrays.fill(types, int.class);
        Method m = PaneDays.class.getMethod(parts[0], types);
        int[][] values = new int[kinds.length][];
        int many = 1;
        for (int i = 0; i < kinds.length; i++) {
            values[i] = values(kinds[i]);
            many *= values[i].length;
        }
        begin();
        for (int c = 0; c < many; c++) {
            int[] args = new int[kinds.length];
            int rest = c;
            for (int i = 0; i < kinds.length; i++) {
                args[i] = values[i][rest % values[i].length];
                rest /= values[i].length;
            }
            ask(m, args, due(kinds, args));
            used++;
            if (used > CALLS - 90) {
                end(parts[0]);
                begin();
            }
        }
        end(parts[0]);
    }

    public static void main(String[] args) throws ReflectiveOperationException {
        for (String line : new String[] {"told 0..8", "pane P 0..5", "shows P X Y", "deep P X Y", "film P X Y *", "films 1..200 0..1",
            "have P 1..200", "showing P 0..200", "settles P X Y", "order O 0..5", "needs O", "cost P C 1..200", "view P C 0..1", "seams P",
            "sights P", "alike P P", "oldest P 0..1", "patch P 0..1", "tells P", "look P 0..1", "cover P C 0..6 0..1", "game P 1..30 0..1",
            "round B 0..1", "by B 1..999", "share P X Y 0..9999", "ahead P 0..60 0..2", "decade * 0..16 1..60 0..2",
            "span * 1..20 0..16 1..60 0..2 Q", "status *", "count *"}) {
            of(line);
        }
        WRONG.stream().limit(40).forEach(System.out::println);
        System.out.println(asked + " calls at their bounds, " + WRONG.size() + " not as due");
        if (!WRONG.isEmpty()) {
            System.exit(1);
        }
    }
}
