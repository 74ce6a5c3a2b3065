import java.lang.management.ManagementFactory;

/** What one object makes over 512 of its dearest calls: the room of a run is counted, and nothing is given back. */
public final class RoomTest {
    private static long made() {
        com.sun.management.ThreadMXBean bean = (com.sun.management.ThreadMXBean) ManagementFactory.getThreadMXBean();
        return bean.getThreadAllocatedBytes(Thread.currentThread().getId());
    }

    private static final String STREET = "pane 4 4 1 1;pane 4 4 2 2;pane 4 4 3 3;pane 4 4 4 4;pane 4 4 5 5;hold 30;order 0 0 0 1 1;";

    private static int fill(PaneDays p, String text) {
        for (int i = 0; i < text.length(); i += 20) {
            p.feed(Texts.four(text, i), Texts.four(text, i + 4), Texts.four(text, i + 8), Texts.four(text, i + 12), Texts.four(text, i + 16));
        }
        return text.length();
    }

    private static long dear() {
        long before = made();
        PaneDays p = new PaneDays();
        p.street(fill(p, STREET));
        int calls = 7;
        for (int i = 0; i < 8; i++) {
            p.work(fill(p, "again 3 [day;];wipe 0 1;"));
            calls += 3;
        }
        for (int i = 0; calls < 505; i++) {
            p.image();
            p.image();
            p.restore();
            p.restore();
            p.undo();
            p.law(fill(p, "day%2+least[x,y]"));
            p.work(fill(p, "day;wipe 1 2;"));
            p.span(i, 20, 1, 60, 0, 0);
            p.decade(i, 1, 60, 0);
            p.ahead(0, 60, 1);
            p.cover(0, 65535, 0, 1);
            p.round(1, 0);
            p.patch(0, 0);
            p.view(0, 65535, 0);
            calls += 16;
        }
        return made() - before;
    }

    public static void main(String[] args) {
        dear();
        dear();
        long bytes = dear();
        // an int has four bytes: the room of a run is 7.3 million fields and elements, of which an object takes a part
        long elements = bytes / 4;
        System.out.println("512 dear calls make at most " + elements + " elements");
        if (elements > 200000) {
            System.exit(1);
        }
    }
}
