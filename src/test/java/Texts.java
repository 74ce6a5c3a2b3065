import java.util.Random;

/** Texts for tests: their bytes as the numbers that feed takes, and texts made by chance. */
final class Texts {
    private Texts() {
    }

    /** The four bytes from at on as one number; behind the text's end zeros. */
    static int four(String text, int at) {
        int n = 0;
        for (int i = at; i < at + 4; i++) {
            n = n << 8 | (i < text.length() ? text.charAt(i) & 255 : 0);
        }
        return n;
    }

    private static String oneOf(Random r, String... words) {
        return words[r.nextInt(words.length)];
    }

    private static String gap(Random r) {
        return r.nextInt(12) == 0 ? "  " : " ";
    }

    static String street(Random r) {
        StringBuilder s = new StringBuilder();
        int panes = r.nextInt(12) == 0 ? 0 : 1 + r.nextInt(r.nextInt(20) == 0 ? 6 : 5);
        int[] w = new int[6];
        int[] h = new int[6];
        for (int i = 0; i < panes; i++) {
            w[i] = 1 + r.nextInt(4);
            h[i] = 1 + r.nextInt(4);
            s.append("pane").append(gap(r)).append(w[i]).append(gap(r)).append(h[i]).append(' ')
                .append(r.nextInt(61)).append(' ').append(r.nextInt(10)).append(';');
        }
        int rains = r.nextInt(5);
        for (int i = 0; i < rains; i++) {
            s.append("rain ").append(1 + r.nextInt(r.nextInt(4) == 0 ? 200 : 15)).append(' ').append(1 + r.nextInt(4)).append(';');
        }
        int orders = panes == 0 ? 0 : r.nextInt(r.nextInt(20) == 0 ? 14 : 8);
        for (int i = 0; i < orders; i++) {
            int p = r.nextInt(panes);
            int d = 1 + r.nextInt(r.nextInt(6) == 0 ? 200 : 12);
            int t = Math.min(200, d + r.nextInt(8));
            s.append("order ").append(p).append(' ').append(r.nextInt(w[p])).append(' ').append(r.nextInt(h[p]))
                .append(' ').append(d).append(' ').append(t).append(';');
        }
        if (r.nextInt(3) == 0) {
            s.append("hold ").append(1 + r.nextInt(r.nextInt(2) == 0 ? 30 : 5)).append(';');
        }
        if (r.nextInt(2) == 0) {
            s.append("pace ").append(1 + r.nextInt(9)).append(' ').append(1 + r.nextInt(9)).append(" ;");
        }
        if (r.nextInt(40) == 0) {
            for (int i = 0; i < 40 + r.nextInt(21); i++) {
                s.append("hold 4;");
            }
        }
        return s.toString();
    }

    static String law(Random r, int depth) {
        StringBuilder s = new StringBuilder();
        int terms = 1 + r.nextInt(depth > 5 ? 1 : 3);
        for (int i = 0; i < terms; i++) {
            s.append(i == 0 ? "" : oneOf(r, "+", "-", " * ", "/", " % ", "- ", " +")).append(unit(r, depth));
        }
        return s.toString();
    }

    private static String unit(Random r, int depth) {
        int k = r.nextInt(10);
        if (k < 2) {
            return Integer.toString(r.nextInt(r.nextInt(3) == 0 ? 1000 : 4));
        }
        if (k < 8 || depth > 7) {
            return oneOf(r, "day", "x", "y", "floor", "pane", "deep", "seen", "rain");
        }
        if (k == 8) {
            return "(" + law(r, depth + 1) + ")";
        }
        return oneOf(r, "least", "most ") + "[" + law(r, depth + 1) + "," + law(r, depth + 1) + "]";
    }

    static String work(Random r, int panes, int depth) {
        StringBuilder s = new StringBuilder();
        int steps = r.nextInt(7);
        for (int i = 0; i < steps; i++) {
            int p = r.nextInt(Math.max(1, panes));
            switch (r.nextInt(11)) {
                case 0:
                    s.append("wipe ").append(p).append(gap(r)).append(1 + r.nextInt(4));
                    break;
                case 1:
                    s.append("cell ").append(p).append(' ').append(r.nextInt(2)).append(' ').append(r.nextInt(2)).append(' ')
                        .append(1 + r.nextInt(3));
                    break;
                case 2:
                    s.append("circle ").append(p).append(' ').append(r.nextInt(2)).append(' ').append(r.nextInt(2)).append(' ')
                        .append(r.nextInt(7)).append(' ').append(1 + r.nextInt(r.nextInt(5) == 0 ? 30 : 3));
                    break;
                case 3:
                    s.append("rinse");
                    break;
                case 4:
                    s.append(r.nextInt(4) == 0 ? "break " + p : "day");
                    break;
                case 5:
                case 6:
                    if (depth < 8) {
                        s.append("again ").append(r.nextInt(r.nextInt(4) == 0 ? 21 : 5)).append(" [")
                            .append(work(r, panes, depth + 1)).append(']');
                    } else {
                        s.append("day");
                    }
                    break;
                default:
                    s.append("day");
            }
            s.append(r.nextInt(15) == 0 ? " ;" : ";");
        }
        return s.toString();
    }

    static String book(Random r, int[] days) {
        StringBuilder s = new StringBuilder();
        int lines = r.nextInt(r.nextInt(10) == 0 ? 10 : 4);
        for (int i = 0; i < lines; i++) {
            s.append(r.nextInt(r.nextInt(3) == 0 ? 4 : 2)).append(' ').append(r.nextInt(r.nextInt(3) == 0 ? 4 : 2)).append(' ')
                .append(days.length == 0 ? r.nextInt(12) : days[r.nextInt(days.length)]).append(';');
        }
        return s.toString();
    }

    /** A few bytes changed, put in or left out. */
    static String hurt(Random r, String text) {
        StringBuilder s = new StringBuilder(text);
        int times = 1 + r.nextInt(2);
        for (int i = 0; i < times; i++) {
            int at = r.nextInt(s.length() + 1);
            String from = oneOf(r, " ;0123456789[](),+-*/%adexy", " ;[]0", "\0\377\200AZ{}@`:");
            char c = from.charAt(r.nextInt(from.length()));
            if (r.nextInt(3) == 0 && at < s.length()) {
                s.deleteCharAt(at);
            } else if (r.nextBoolean() && at < s.length()) {
                s.setCharAt(at, c);
            } else {
                s.insert(at, c);
            }
        }
        return s.toString();
    }
}
