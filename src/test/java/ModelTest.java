import java.util.NoSuchElementException;
import java.util.Random;
import java.util.function.IntSupplier;

/** Runs of calls by chance, on PaneDays and on Model: all answers are to be the same. */
public final class ModelTest {
    private static int wrong;
    private static int compared;
    private static final int[] KINDS = new int[64];

    private static String answer(IntSupplier call) {
        try {
            return Integer.toString(call.getAsInt());
        } catch (IllegalArgumentException e) {
            return "IllegalArgumentException";
        } catch (NoSuchElementException e) {
            return "NoSuchElementException";
        } catch (IndexOutOfBoundsException e) {
            return e.getClass() == IndexOutOfBoundsException.class ? "IndexOutOfBoundsException" : "machine: " + e;
        } catch (RuntimeException e) {
            return "machine: " + e;
        }
    }

    private final PaneDays p = new PaneDays();
    private final Model m = new Model();
    private final Random r;
    private final long run;
    private int calls;

    private ModelTest(long run) {
        this.run = run;
        r = new Random(run);
    }

    private String same(String call, IntSupplier got, IntSupplier due) {
        String a = answer(got);
        String b = answer(due);
        calls++;
        compared++;
        if (!a.equals(b)) {
            wrong++;
            if (wrong < 40) {
                System.out.println("run " + run + ", call " + calls + ": " + call + " answered " + a + ", due is " + b);
            }
        }
        return b;
    }

    private void feed(String text) {
        for (int i = 0; i < text.length(); i += 20) {
            int a = Texts.four(text, i);
            int b = Texts.four(text, i + 4);
            int c = Texts.four(text, i + 8);
            int d = Texts.four(text, i + 12);
            int e = Texts.four(text, i + 16);
            same("feed", () -> p.feed(a, b, c, d, e), () -> m.feed(a, b, c, d, e));
        }
    }

    private void text(int kind, String plain) {
        String text = r.nextInt(6) == 0 ? Texts.hurt(r, plain) : plain;
        feed(text);
        int n = r.nextInt(25) == 0 ? r.nextInt(640) - 20 : text.length();
        String name = new String[] {"street", "law", "work", "book"}[kind] + "(" + n + ") of '" + text + "'";
        switch (kind) {
            case 0:
                same(name, () -> p.street(n), () -> m.street(n));
                break;
            case 1:
                same(name, () -> p.law(n), () -> m.law(n));
                break;
            case 2:
                same(name, () -> p.work(n), () -> m.work(n));
                break;
            default:
                same(name, () -> p.book(n), () -> m.book(n));
        }
        same("fault()", p::fault, m::fault);
    }

    private int day() {
        int k = r.nextInt(12);
        return k == 0 ? r.nextInt(220) - 10 : Math.max(0, Math.min(200, m.now.day - r.nextInt(8)));
    }

    private int pane() {
        return r.nextInt(15) == 0 ? r.nextInt(8) - 1 : r.nextInt(Math.max(1, m.street.panes.size()));
    }

    private int side(int most) {
        return r.nextInt(15) == 0 ? r.nextInt(6) - 1 : r.nextInt(Math.max(1, most));
    }

    private int cellsOf(int q) {
        int all = 0;
        if (q >= 0 && q < m.street.panes.size()) {
            for (int i = 0; i < 16; i++) {
                all |= i % 4 < m.street.panes.get(q).w && i / 4 < m.street.panes.get(q).h ? 1 << i : 0;
            }
        }
        return r.nextInt(15) == 0 ? r.nextInt() >> r.nextInt(32) : all & r.nextInt() & (r.nextBoolean() ? -1 : r.nextInt());
    }

    private int orders() {
        return r.nextInt(15) == 0 ? r.nextInt() >> r.nextInt(32) : r.nextInt(1 << m.street.orders.size());
    }

    private int order() {
        return r.nextInt(15) == 0 ? r.nextInt(16) - 2 : r.nextInt(Math.max(1, m.street.orders.size()));
    }

    private int what(int last) {
        return r.nextInt(25) == 0 ? r.nextInt(last + 4) - 2 : r.nextInt(last + 1);
    }

    private void ask() {
        int kind = r.nextInt(34);
        KINDS[kind]++;
        int q = pane();
        boolean has = q >= 0 && q < m.street.panes.size();
        int x = side(has ? m.street.panes.get(q).w : 4);
        int y = side(has ? m.street.panes.get(q).h : 4);
        int w = what(1);
        int d = day();
        switch (kind) {
            case 0: same("undo()", p::undo, m::undo); break;
            case 1: { int v = what(8); same("told(" + v + ")", () -> p.told(v), () -> m.told(v)); break; }
            case 2: { int v = what(5); same("pane", () -> p.pane(q, v), () -> m.pane(q, v)); break; }
            case 3: same("shows", () -> p.shows(q, x, y), () -> m.shows(q, x, y)); break;
            case 4: same("deep", () -> p.deep(q, x, y), () -> m.deep(q, x, y)); break;
            case 5: { int n = r.nextInt(8) - 1; same("film", () -> p.film(q, x, y, n), () -> m.film(q, x, y, n)); break; }
            case 6: same("films " + d + " " + w, () -> p.films(d, w), () -> m.films(d, w)); break;
            case 7: same("have", () -> p.have(q, d), () -> m.have(q, d)); break;
            case 8: same("showing", () -> p.showing(q, d), () -> m.showing(q, d)); break;
            case 9: same("settles", () -> p.settles(q, x, y) ? 1 : 0, () -> m.settles(q, x, y) ? 1 : 0); break;
            case 10: { int o = order(); int v = what(5); same("order", () -> p.order(o, v), () -> m.order(o, v)); break; }
            case 11: { int o = order(); same("needs", () -> p.needs(o), () -> m.needs(o)); break; }
            case 12: same("lost", p::lost, m::lost); break;
            case 13: { int c = cellsOf(q); same("cost", () -> p.cost(q, c, d), () -> m.cost(q, c, d)); break; }
            case 14: { int c = cellsOf(q); same("view", () -> p.view(q, c, w), () -> m.view(q, c, w)); break; }
            case 15: same("seams", () -> p.seams(q), () -> m.seams(q)); break;
            case 16: same("sights", () -> p.sights(q), () -> m.sights(q)); break;
            case 17: { int o = pane(); same("alike", () -> p.alike(q, o), () -> m.alike(q, o)); break; }
            case 18: same("oldest", () -> p.oldest(q, w), () -> m.oldest(q, w)); break;
            case 19: same("thick", p::thick, m::thick); break;
            case 20: same("patch", () -> p.patch(q, w), () -> m.patch(q, w)); break;
            case 21: same("tells", () -> p.tells(q), () -> m.tells(q)); break;
            case 22: same("look", () -> p.look(q, w), () -> m.look(q, w)); break;
            case 23: {
                int c = cellsOf(q);
                int s = r.nextInt(r.nextInt(3) == 0 ? 9 : 4) - (r.nextInt(9) == 0 ? 1 : 0);
                same("cover", () -> p.cover(q, c, s, w), () -> m.cover(q, c, s, w));
                break;
            }
            case 24: { int k = r.nextInt(34) - 1; same("game", () -> p.game(q, k, w), () -> m.game(q, k, w)); break; }
            case 25: { int o = orders(); same("round", () -> p.round(o, w), () -> m.round(o, w)); break; }
            case 26: {
                int o = orders();
                int n = r.nextInt(r.nextInt(5) == 0 ? 1010 : 60) - (r.nextInt(9) == 0 ? 1 : 0);
                same("by", () -> p.by(o, n) ? 1 : 0, () -> m.by(o, n) ? 1 : 0);
                break;
            }
            case 27: {
                int n = r.nextInt(r.nextInt(9) == 0 ? 10010 : 200) - (r.nextInt(9) == 0 ? 5 : 0);
                same("share", () -> p.share(q, x, y, n), () -> m.share(q, x, y, n));
                break;
            }
            case 28: {
                int n = r.nextInt(64) - 1;
                int v = what(2);
                same("ahead", () -> p.ahead(q, n, v), () -> m.ahead(q, n, v));
                break;
            }
            case 29: {
                int s = r.nextInt();
                int b = r.nextInt(r.nextInt(3) == 0 ? 18 : 4);
                int n = r.nextInt(r.nextInt(3) == 0 ? 63 : 12);
                int v = what(2);
                same("decade", () -> p.decade(s, b, n, v), () -> m.decade(s, b, n, v));
                break;
            }
            case 30: {
                int s = r.nextInt(9) == 0 ? Integer.MAX_VALUE - r.nextInt(3) : r.nextInt();
                int k = r.nextInt(22);
                int b = r.nextInt(r.nextInt(3) == 0 ? 18 : 3);
                int n = r.nextInt(r.nextInt(6) == 0 ? 63 : 9);
                int v = what(2);
                same("span", () -> p.span(s, k, b, n, v, q), () -> m.span(s, k, b, n, v, q));
                break;
            }
            case 31: same("image", p::image, m::image); break;
            case 32: same("restore", p::restore, m::restore); break;
            default: {
                int v = r.nextInt(5) - 1;
                same("status", () -> p.status(v), () -> m.status(v));
                same("count", () -> p.count(v), () -> m.count(v));
            }
        }
    }

    private int[] daysSeen() {
        return m.now.cells.values().stream().filter(f -> !f.isEmpty()).mapToInt(f -> f.get(f.size() - 1 - r.nextInt(f.size()))).toArray();
    }

    private void go() {
        if (r.nextInt(10) > 0) {
            text(0, Texts.street(r));
        }
        while (calls < 400) {
            int k = r.nextInt(60);
            if (k == 0) {
                text(0, Texts.street(r));
            } else if (k < 5) {
                text(1, Texts.law(r, 0));
            } else if (k < 13) {
                text(2, Texts.work(r, m.street.panes.size(), 0));
            } else if (k < 16) {
                text(3, Texts.book(r, daysSeen()));
            } else if (k == 16) {
                text(2, "again 20 [day;day;day;day;day;];");
            } else {
                ask();
            }
        }
    }

    public static void main(String[] args) {
        int runs = args.length > 0 ? Integer.parseInt(args[0]) : 1500;
        int first = args.length > 1 ? Integer.parseInt(args[1]) : 1;
        for (int i = first; i < first + runs; i++) {
            new ModelTest(i).go();
        }
        System.out.println(compared + " answers compared, " + wrong + " not as due");
        if (wrong != 0) {
            System.exit(1);
        }
    }
}
