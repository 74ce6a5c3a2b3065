import java.util.ArrayList;
import java.util.Arrays;
import java.util.HashMap;
import java.util.List;
import java.util.Map;
import java.util.NoSuchElementException;
import java.util.TreeSet;
import java.util.function.ToIntFunction;

/** The document told a second time, plainly and slowly, with the Java library: what PaneDays is held against. */
final class Model {
    /** A FAULT found while a text is read. */
    @SuppressWarnings("serial")
    static final class Fault extends RuntimeException {
        final int kind;
        final int place;

        Fault(int kind, int place) {
            super(null, null, false, false);
            this.kind = kind;
            this.place = place;
        }
    }

    static final class Pane {
        int w;
        int h;
        int x;
        int f;
    }

    static final class Order {
        int p;
        int x;
        int y;
        int d;
        int t;
    }

    static final class Street {
        final List<Pane> panes = new ArrayList<>();
        final List<int[]> rains = new ArrayList<>();
        final List<Order> orders = new ArrayList<>();
        int a = 1;
        int b = 3;
        int hold = 20;
    }

    /** Films by "pane/x/y", innermost first. */
    static final class State {
        int day;
        int washed;
        Map<String, List<Integer>> cells = new HashMap<>();
        List<Integer> rag = new ArrayList<>();
        TreeSet<Integer> broken = new TreeSet<>();
        TreeSet<Integer> met = new TreeSet<>();

        State twin() {
            State s = new State();
            s.day = day;
            s.washed = washed;
            for (Map.Entry<String, List<Integer>> e : cells.entrySet()) {
                s.cells.put(e.getKey(), new ArrayList<>(e.getValue()));
            }
            s.rag = new ArrayList<>(rag);
            s.broken = new TreeSet<>(broken);
            s.met = new TreeSet<>(met);
            return s;
        }

        List<Integer> at(int p, int x, int y) {
            return cells.computeIfAbsent(p + "/" + x + "/" + y, k -> new ArrayList<>());
        }

        int shown(int p, int x, int y) {
            return filmAt(p, x, y, 0);
        }

        int filmAt(int p, int x, int y, int n) {
            List<Integer> f = at(p, x, y);
            return n < 0 || n >= f.size() ? 0 : f.get(f.size() - 1 - n);
        }

        int all() {
            int n = 0;
            for (List<Integer> f : cells.values()) {
                n += f.size();
            }
            return n;
        }
    }

    record Image(State now, List<State> before) { }

    record Line(int x, int y, int d) { }

    /** What a LAW is asked for. */
    record Asked(int day, int x, int y, int floor, int pane, int deep, int seen, int rain) { }

    final StringBuilder tape = new StringBuilder();
    Street street = new Street();
    ToIntFunction<Asked> law = a -> 1;
    List<Line> book = new ArrayList<>();
    State now = new State();
    List<State> before = new ArrayList<>();
    List<Image> images = new ArrayList<>();
    int fault = -1;
    int refusedSteps;
    final int[] status = new int[3];

    // ---- reading ----

    static final class Reader {
        final String text;
        int at;

        Reader(String text) {
            this.text = text;
        }

        void blanks() {
            while (at < text.length() && text.charAt(at) == ' ') {
                at++;
            }
        }

        boolean ended() {
            blanks();
            return at >= text.length();
        }

        char peek() {
            return ended() ? (char) 0xFFFF : text.charAt(at);
        }

        String word() {
            blanks();
            int to = at;
            while (to < text.length() && text.charAt(to) >= 'a' && text.charAt(to) <= 'z') {
                to++;
            }
            return text.substring(at, to);
        }

        String wordOf(String... fine) {
            String w = word();
            if (!Arrays.asList(fine).contains(w)) {
                throw new Fault(1, at);
            }
            return w;
        }

        void sign(char c) {
            if (peek() != c) {
                throw new Fault(1, at);
            }
            at++;
        }

        boolean atDigit() {
            return peek() >= '0' && peek() <= '9';
        }

        java.math.BigInteger peekNumber() {
            if (!atDigit()) {
                throw new Fault(1, at);
            }
            int to = at;
            while (to < text.length() && text.charAt(to) >= '0' && text.charAt(to) <= '9') {
                to++;
            }
            return new java.math.BigInteger(text.substring(at, to));
        }

        int number(int low, int high) {
            java.math.BigInteger n = peekNumber();
            if (n.compareTo(java.math.BigInteger.valueOf(low)) < 0 || n.compareTo(java.math.BigInteger.valueOf(high)) > 0) {
                throw new Fault(2, at);
            }
            while (at < text.length() && text.charAt(at) >= '0' && text.charAt(at) <= '9') {
                at++;
            }
            return n.intValue();
        }
    }

    private Street readStreet(String text) {
        Street s = new Street();
        Reader r = new Reader(text);
        int clauses = 0;
        while (!r.ended()) {
            String w = r.wordOf("pane", "rain", "order", "pace", "hold");
            boolean full = w.equals("pane") && s.panes.size() == 5 || w.equals("rain") && s.rains.size() == 12
                || w.equals("order") && s.orders.size() == 12;
            if (clauses == 60 || full) {
                throw new Fault(3, r.at);
            }
            clauses++;
            r.at += w.length();
            if (w.equals("pane")) {
                Pane p = new Pane();
                p.w = r.number(1, 4);
                p.h = r.number(1, 4);
                p.x = r.number(0, 60);
                p.f = r.number(0, 9);
                s.panes.add(p);
            } else if (w.equals("rain")) {
                s.rains.add(new int[] {r.number(1, 200), r.number(1, 9)});
            } else if (w.equals("order")) {
                Order o = new Order();
                o.p = r.number(0, s.panes.size() - 1);
                o.x = r.number(0, s.panes.get(o.p).w - 1);
                o.y = r.number(0, s.panes.get(o.p).h - 1);
                o.d = r.number(1, 200);
                o.t = r.number(o.d, 200);
                s.orders.add(o);
            } else if (w.equals("pace")) {
                s.a = r.number(1, 9);
                s.b = r.number(1, 9);
            } else {
                s.hold = r.number(1, 30);
            }
            r.sign(';');
        }
        return s;
    }

    private ToIntFunction<Asked> readE(Reader r, int open) {
        ToIntFunction<Asked> left = readT(r, open);
        while (r.peek() == '+' || r.peek() == '-') {
            boolean plus = r.peek() == '+';
            r.at++;
            ToIntFunction<Asked> l = left;
            ToIntFunction<Asked> right = readT(r, open);
            left = plus ? a -> l.applyAsInt(a) + right.applyAsInt(a) : a -> l.applyAsInt(a) - right.applyAsInt(a);
        }
        return left;
    }

    private ToIntFunction<Asked> readT(Reader r, int open) {
        ToIntFunction<Asked> left = readU(r, open);
        while (r.peek() == '*' || r.peek() == '/' || r.peek() == '%') {
            char c = r.peek();
            r.at++;
            ToIntFunction<Asked> l = left;
            ToIntFunction<Asked> right = readU(r, open);
            left = a -> {
                long p = l.applyAsInt(a);
                long q = right.applyAsInt(a);
                if (c == '*') {
                    return (int) (p * q);
                }
                return q == 0 ? 0 : (int) (c == '/' ? p / q : p % q);
            };
        }
        return left;
    }

    private ToIntFunction<Asked> readU(Reader r, int open) {
        if (r.atDigit()) {
            int n = r.number(0, 999);
            return a -> n;
        }
        if (r.peek() == '(') {
            if (open == 6) {
                throw new Fault(3, r.at);
            }
            r.at++;
            ToIntFunction<Asked> e = readE(r, open + 1);
            r.sign(')');
            return e;
        }
        String w = r.wordOf("day", "x", "y", "floor", "pane", "deep", "seen", "rain", "least", "most");
        boolean least = w.equals("least");
        if (least || w.equals("most")) {
            if (open == 6) {
                throw new Fault(3, r.at);
            }
            r.at += w.length();
            r.sign('[');
            ToIntFunction<Asked> e = readE(r, open + 1);
            r.sign(',');
            ToIntFunction<Asked> f = readE(r, open + 1);
            r.sign(']');
            return a -> least ? Math.min(e.applyAsInt(a), f.applyAsInt(a)) : Math.max(e.applyAsInt(a), f.applyAsInt(a));
        }
        r.at += w.length();
        switch (w) {
            case "day": return Asked::day;
            case "x": return Asked::x;
            case "y": return Asked::y;
            case "floor": return Asked::floor;
            case "pane": return Asked::pane;
            case "deep": return Asked::deep;
            case "seen": return Asked::seen;
            default: return Asked::rain;
        }
    }

    /** A STEP: its word, its numbers, and for an again its STEPS. */
    record Step(String word, int[] n, List<Step> inner) { }

    private List<Step> readSteps(Reader r, int open) {
        List<Step> steps = new ArrayList<>();
        while (!r.ended() && r.peek() != ']') {
            String w = r.wordOf("wipe", "cell", "circle", "day", "rinse", "break", "again");
            if (w.equals("again") && open == 6) {
                throw new Fault(3, r.at);
            }
            r.at += w.length();
            int[] n = new int[5];
            List<Step> inner = null;
            if (w.equals("again")) {
                n[0] = r.number(0, 20);
                r.sign('[');
                inner = readSteps(r, open + 1);
                r.sign(']');
            } else if (!w.equals("day") && !w.equals("rinse")) {
                n[0] = r.number(0, street.panes.size() - 1);
                if (w.equals("cell") || w.equals("circle")) {
                    n[1] = r.number(0, street.panes.get(n[0]).w - 1);
                    n[2] = r.number(0, street.panes.get(n[0]).h - 1);
                }
                if (w.equals("circle")) {
                    n[3] = r.number(0, 6);
                }
                if (!w.equals("break")) {
                    n[4] = r.number(1, 30);
                }
            }
            r.sign(';');
            steps.add(new Step(w, n, inner));
        }
        return steps;
    }

    private static List<Line> readBook(String text) {
        List<Line> lines = new ArrayList<>();
        Reader r = new Reader(text);
        while (!r.ended()) {
            int place = r.at;
            int x = r.number(0, 3);
            if (lines.size() == 8) {
                throw new Fault(3, place);
            }
            r.peek();
            place = r.at;
            int y = r.number(0, 3);
            for (Line l : lines) {
                if (l.x == x && l.y == y) {
                    throw new Fault(2, place);
                }
            }
            int d = r.number(0, 200);
            r.sign(';');
            lines.add(new Line(x, y, d));
        }
        return lines;
    }

    private static void nothingMore(Reader r) {
        if (!r.ended()) {
            throw new Fault(1, r.at);
        }
    }

    // ---- doing ----

    private int begun;
    private int done;

    private void doSteps(List<Step> steps) {
        for (Step s : steps) {
            if (begun == 200) {
                return;
            }
            begun++;
            if (s.word.equals("again")) {
                for (int i = 0; i < s.n[0]; i++) {
                    doSteps(s.inner);
                }
            } else if (doStep(s)) {
                done++;
            } else {
                refusedSteps++;
            }
        }
    }

    private boolean doStep(Step s) {
        int p = s.n[0];
        switch (s.word) {
            case "day":
                return passDay(now);
            case "rinse": {
                boolean any = !now.rag.isEmpty();
                now.rag.clear();
                return any;
            }
            case "break":
                if (now.broken.contains(p)) {
                    return false;
                }
                smash(now, p);
                return true;
            default: {
                boolean any = false;
                for (int y = 0; y < street.panes.get(p).h; y++) {
                    for (int x = 0; x < street.panes.get(p).w; x++) {
                        int far = Math.abs(x - s.n[1]) + Math.abs(y - s.n[2]);
                        if (s.word.equals("wipe") || far <= s.n[3]) {
                            List<Integer> f = now.at(p, x, y);
                            for (int i = 0; i < s.n[4] && !f.isEmpty(); i++) {
                                now.rag.add(f.remove(f.size() - 1));
                                any = true;
                            }
                        }
                    }
                }
                return any;
            }
        }
    }

    private void smash(State s, int p) {
        s.broken.add(p);
        for (int y = 0; y < 4; y++) {
            for (int x = 0; x < 4; x++) {
                s.at(p, x, y).clear();
            }
        }
    }

    private int rainOn(int day) {
        int n = 0;
        for (int[] r : street.rains) {
            n += r[0] == day ? r[1] : 0;
        }
        return n;
    }

    private boolean passDay(State s) {
        if (s.day == 200) {
            return false;
        }
        for (int i = 0; i < street.orders.size(); i++) {
            Order o = street.orders.get(i);
            if (o.t == s.day && s.shown(o.p, o.x, o.y) == o.d) {
                s.met.add(i);
            }
        }
        s.day++;
        for (List<Integer> f : s.cells.values()) {
            for (int i = 0; i < rainOn(s.day) && !f.isEmpty(); i++) {
                f.remove(f.size() - 1);
                s.washed++;
            }
        }
        for (int p = 0; p < street.panes.size(); p++) {
            Pane q = street.panes.get(p);
            for (int y = 0; y < q.h; y++) {
                for (int x = 0; x < q.w; x++) {
                    List<Integer> f = s.at(p, x, y);
                    Asked a = new Asked(s.day, x, y, q.f, p, f.size(), s.shown(p, x, y), rainOn(s.day));
                    if (!s.broken.contains(p) && law.applyAsInt(a) > 0) {
                        if (f.size() == street.hold) {
                            f.remove(0);
                        }
                        f.add(s.day);
                    }
                }
            }
        }
        return true;
    }

    // ---- the face ----

    int feed(int a, int b, int c, int d, int e) {
        if (tape.length() + 20 > 600) {
            return -1;
        }
        for (int n : new int[] {a, b, c, d, e}) {
            tape.append((char) (n >>> 24)).append((char) (n >>> 16 & 255)).append((char) (n >>> 8 & 255)).append((char) (n & 255));
        }
        return tape.length();
    }

    private String take(int n, int most) {
        check(n >= 0 && n <= tape.length() && n <= most);
        fault = -1;
        String text = tape.substring(0, n);
        tape.setLength(0);
        return text;
    }

    private int faulty(Fault f) {
        fault = f.place;
        return f.kind - 10;
    }

    int street(int n) {
        String text = take(n, 600);
        try {
            street = readStreet(text);
        } catch (Fault f) {
            return faulty(f);
        }
        law = a -> 1;
        book = new ArrayList<>();
        now = new State();
        before = new ArrayList<>();
        images = new ArrayList<>();
        refusedSteps = 0;
        return street.panes.size();
    }

    int law(int n) {
        Reader r = new Reader(take(n, 150));
        try {
            ToIntFunction<Asked> e = readE(r, 0);
            nothingMore(r);
            law = e;
        } catch (Fault f) {
            return faulty(f);
        }
        return 1;
    }

    int work(int n) {
        Reader r = new Reader(take(n, 200));
        if (before.size() == 8) {
            return -20;
        }
        List<Step> steps;
        try {
            steps = readSteps(r, 0);
            nothingMore(r);
        } catch (Fault f) {
            return faulty(f);
        }
        before.add(now.twin());
        begun = 0;
        done = 0;
        refusedSteps = 0;
        doSteps(steps);
        return done;
    }

    int book(int n) {
        String text = take(n, 100);
        try {
            book = readBook(text);
        } catch (Fault f) {
            return faulty(f);
        }
        return book.size();
    }

    int fault() {
        return fault;
    }

    int undo() {
        if (before.isEmpty()) {
            return -1;
        }
        now = before.remove(before.size() - 1);
        refusedSteps = 0;
        return before.size();
    }

    int told(int what) {
        what(what, 8);
        int[] all = {street.panes.size(), street.orders.size(), street.rains.size(), now.day, now.all(), now.rag.size(),
            now.washed, book.size(), refusedSteps};
        return all[what];
    }

    private int filmsOn(State s, int p) {
        int n = 0;
        for (int i = 0; i < 16; i++) {
            n += s.at(p, i % 4, i / 4).size();
        }
        return n;
    }

    int pane(int p, int what) {
        hasPane(p);
        what(what, 5);
        Pane q = street.panes.get(p);
        int[] all = {q.w, q.h, q.x, q.f, filmsOn(now, p), now.broken.contains(p) ? 1 : 0};
        return all[what];
    }

    int shows(int p, int x, int y) {
        hasCell(p, x, y);
        return now.shown(p, x, y);
    }

    int deep(int p, int x, int y) {
        hasCell(p, x, y);
        return now.at(p, x, y).size();
    }

    int film(int p, int x, int y, int n) {
        hasCell(p, x, y);
        return now.filmAt(p, x, y, n);
    }

    int films(int day, int what) {
        check(day >= 1 && day <= 200);
        what(what, 1);
        int n = 0;
        if (what == 0) {
            for (int d : now.rag) {
                n += d == day ? 1 : 0;
            }
        } else {
            for (List<Integer> f : now.cells.values()) {
                for (int d : f) {
                    n += d == day ? 1 : 0;
                }
            }
        }
        return n;
    }

    private List<int[]> cellsOf(int p) {
        List<int[]> cells = new ArrayList<>();
        for (int y = 0; y < street.panes.get(p).h; y++) {
            for (int x = 0; x < street.panes.get(p).w; x++) {
                cells.add(new int[] {x, y});
            }
        }
        return cells;
    }

    private int mask(int p) {
        int bits = 0;
        for (int[] c : cellsOf(p)) {
            bits |= 1 << 4 * c[1] + c[0];
        }
        return bits;
    }

    int have(int p, int day) {
        hasPane(p);
        check(day >= 1 && day <= 200);
        int bits = 0;
        for (int[] c : cellsOf(p)) {
            bits |= now.at(p, c[0], c[1]).contains(day) ? 1 << 4 * c[1] + c[0] : 0;
        }
        return bits;
    }

    int showing(int p, int day) {
        hasPane(p);
        check(day >= 0 && day <= 200);
        int bits = 0;
        for (int[] c : cellsOf(p)) {
            bits |= now.shown(p, c[0], c[1]) == day ? 1 << 4 * c[1] + c[0] : 0;
        }
        return bits;
    }

    boolean settles(int p, int x, int y) {
        hasCell(p, x, y);
        if (now.broken.contains(p) || now.day == 200) {
            return false;
        }
        return law.applyAsInt(new Asked(now.day + 1, x, y, street.panes.get(p).f, p, now.at(p, x, y).size(),
            now.shown(p, x, y), 0)) > 0;
    }

    private int state(int i) {
        Order o = street.orders.get(i);
        boolean met = now.day > o.t ? now.met.contains(i) : now.day == o.t && now.shown(o.p, o.x, o.y) == o.d;
        if (met) {
            return 1;
        }
        if (now.day > o.t) {
            return 2;
        }
        return now.day >= o.d && !now.at(o.p, o.x, o.y).contains(o.d) ? 3 : 0;
    }

    int order(int i, int what) {
        hasOrder(i);
        what(what, 5);
        Order o = street.orders.get(i);
        return new int[] {o.p, o.x, o.y, o.d, o.t, state(i)}[what];
    }

    int needs(int i) {
        hasOrder(i);
        Order o = street.orders.get(i);
        List<Integer> f = now.at(o.p, o.x, o.y);
        return f.contains(o.d) ? f.size() - 1 - f.indexOf(o.d) : -1;
    }

    int lost() {
        for (int i = 0; i < street.orders.size(); i++) {
            if (state(i) == 2 || state(i) == 3) {
                return i;
            }
        }
        return -1;
    }

    int cost(int p, int cells, int day) {
        hasPane(p);
        check((cells & ~mask(p)) == 0 && day >= 1 && day <= 200);
        return costOf(p, cells, day);
    }

    private int costOf(int p, int cells, int day) {
        int cost = 0;
        for (int i = 0; i < 16; i++) {
            if ((cells >> i & 1) == 1) {
                List<Integer> f = now.at(p, i % 4, i / 4);
                if (!f.contains(day)) {
                    return -1;
                }
                cost += f.size() - 1 - f.indexOf(day);
            }
        }
        return cells == 0 ? -1 : cost;
    }

    int view(int p, int cells, int what) {
        hasPane(p);
        check((cells & ~mask(p)) == 0);
        what(what, 1);
        int best = -1;
        for (int d = 1; d <= 200; d++) {
            int c = costOf(p, cells, d);
            if (c >= 0 && (best < 0 || c <= costOf(p, cells, best))) {
                best = d;
            }
        }
        return what == 0 || best < 0 ? best : costOf(p, cells, best);
    }

    private int seamsOf(State s, int p) {
        int n = 0;
        for (int[] c : cellsOf(p)) {
            for (int[] d : cellsOf(p)) {
                boolean beside = d[0] == c[0] + 1 && d[1] == c[1] || d[0] == c[0] && d[1] == c[1] + 1;
                n += beside && s.shown(p, c[0], c[1]) != s.shown(p, d[0], d[1]) ? 1 : 0;
            }
        }
        return n;
    }

    int seams(int p) {
        hasPane(p);
        return seamsOf(now, p);
    }

    private int sightsOf(State s, int p) {
        TreeSet<Integer> days = new TreeSet<>();
        for (int[] c : cellsOf(p)) {
            days.add(s.shown(p, c[0], c[1]));
        }
        days.remove(0);
        return days.size();
    }

    int sights(int p) {
        hasPane(p);
        return sightsOf(now, p);
    }

    int alike(int p, int q) {
        hasPane(p);
        hasPane(q);
        int bits = 0;
        for (int i = 0; i < 16; i++) {
            if ((mask(p) & mask(q) & 1 << i) != 0 && now.shown(p, i % 4, i / 4) == now.shown(q, i % 4, i / 4)) {
                bits |= 1 << i;
            }
        }
        return bits;
    }

    int oldest(int p, int what) {
        hasPane(p);
        what(what, 1);
        TreeSet<Integer> on = new TreeSet<>();
        TreeSet<Integer> shown = new TreeSet<>();
        for (int[] c : cellsOf(p)) {
            on.addAll(now.at(p, c[0], c[1]));
            shown.add(now.shown(p, c[0], c[1]));
        }
        if (what == 1) {
            on.removeAll(shown);
            return on.isEmpty() ? -1 : on.last();
        }
        return on.isEmpty() ? -1 : on.first();
    }

    int thick() {
        int best = -1;
        int most = 0;
        for (int p = 0; p < street.panes.size(); p++) {
            for (int[] c : cellsOf(p)) {
                if (now.at(p, c[0], c[1]).size() > most) {
                    most = now.at(p, c[0], c[1]).size();
                    best = 16 * p + 4 * c[1] + c[0];
                }
            }
        }
        return best;
    }

    private void walk(int p, int x, int y, int day, TreeSet<Integer> seen) {
        Pane q = street.panes.get(p);
        if (x < 0 || y < 0 || x >= q.w || y >= q.h || now.shown(p, x, y) != day || !seen.add(4 * y + x)) {
            return;
        }
        walk(p, x + 1, y, day, seen);
        walk(p, x - 1, y, day, seen);
        walk(p, x, y + 1, day, seen);
        walk(p, x, y - 1, day, seen);
    }

    int patch(int p, int what) {
        hasPane(p);
        what(what, 1);
        int[] best = {0, 0};
        for (int[] c : cellsOf(p)) {
            int day = now.shown(p, c[0], c[1]);
            TreeSet<Integer> seen = new TreeSet<>();
            walk(p, c[0], c[1], day, seen);
            if (day > 0 && (seen.size() > best[0] || seen.size() == best[0] && day > best[1])) {
                best = new int[] {seen.size(), day};
            }
        }
        return best[what];
    }

    private List<Integer> depths(int p) {
        List<Integer> fine = new ArrayList<>();
        for (int n = 0; n <= 30; n++) {
            boolean ok = true;
            for (Line l : book) {
                ok &= (mask(p) >> 4 * l.y + l.x & 1) == 1 && now.filmAt(p, l.x, l.y, n) == l.d;
            }
            if (ok) {
                fine.add(n);
            }
        }
        return fine;
    }

    int tells(int p) {
        hasPane(p);
        int bits = 0;
        for (int n : depths(p)) {
            bits |= 1 << n;
        }
        return bits;
    }

    int look(int p, int what) {
        hasPane(p);
        what(what, 1);
        int[] best = {-1, -1};
        for (int[] c : cellsOf(p)) {
            boolean inBook = false;
            for (Line l : book) {
                inBook |= l.x == c[0] && l.y == c[1];
            }
            if (!inBook) {
                Map<Integer, Integer> left = new HashMap<>();
                for (int n : depths(p)) {
                    left.merge(now.filmAt(p, c[0], c[1], n), 1, Integer::sum);
                }
                int worst = left.values().stream().mapToInt(v -> v).max().orElse(0);
                if (best[0] < 0 || worst < best[1]) {
                    best = new int[] {4 * c[1] + c[0], worst};
                }
            }
        }
        return best[what];
    }

    int cover(int p, int cells, int r, int what) {
        hasPane(p);
        check((cells & ~mask(p)) == 0 && r >= 0 && r <= 6);
        what(what, 1);
        int count = 99;
        String first = "";
        for (int set = 0; set < 65536; set++) {
            int k = Integer.bitCount(set);
            if ((set & ~mask(p)) != 0 || k > 4 || k > count) {
                continue;
            }
            int left = cells;
            StringBuilder row = new StringBuilder();
            for (int i = 0; i < 16; i++) {
                if ((set >> i & 1) == 1) {
                    row.append(Integer.toHexString(i));
                    for (int j = 0; j < 16; j++) {
                        if (Math.abs(i % 4 - j % 4) + Math.abs(i / 4 - j / 4) <= r) {
                            left &= ~(1 << j);
                        }
                    }
                }
            }
            if (left == 0 && (k < count || row.toString().compareTo(first) < 0)) {
                count = k;
                first = row.toString();
            }
        }
        if (count == 99) {
            return -1;
        }
        return what == 0 ? count : first.isEmpty() ? 0 : Integer.parseInt(first, 16);
    }

    int game(int p, int k, int what) {
        hasPane(p);
        check(k >= 1 && k <= 30);
        what(what, 1);
        int bits = 0;
        for (int[] c : cellsOf(p)) {
            List<Integer> f = now.at(p, c[0], c[1]);
            for (int off = 1; off <= Math.min(k, f.size()); off++) {
                int rest = 0;
                for (int[] d : cellsOf(p)) {
                    int size = now.at(p, d[0], d[1]).size() - (c[0] == d[0] && c[1] == d[1] ? off : 0);
                    rest ^= size % (k + 1);
                }
                bits |= rest == 0 ? 1 << 4 * c[1] + c[0] : 0;
            }
        }
        return what == 1 ? bits : bits != 0 ? 1 : 0;
    }

    private void rows(List<Integer> left, List<Integer> row, List<List<Integer>> all) {
        if (left.isEmpty()) {
            all.add(new ArrayList<>(row));
        }
        for (int p : left) {
            List<Integer> rest = new ArrayList<>(left);
            rest.remove((Integer) p);
            row.add(p);
            rows(rest, row, all);
            row.remove(row.size() - 1);
        }
    }

    private List<List<Integer>> rowsOf(int orders) {
        TreeSet<Integer> panes = new TreeSet<>();
        for (int i = 0; i < street.orders.size(); i++) {
            if ((orders >> i & 1) == 1) {
                panes.add(street.orders.get(i).p);
            }
        }
        List<List<Integer>> all = new ArrayList<>();
        rows(new ArrayList<>(panes), new ArrayList<>(), all);
        return all;
    }

    private int[] times(List<Integer> row) {
        int[] when = new int[5];
        int x = 0;
        int f = 0;
        int t = 0;
        for (int p : row) {
            Pane q = street.panes.get(p);
            t += street.a * Math.abs(q.x - x) + street.b * Math.abs(q.f - f);
            x = q.x;
            f = q.f;
            when[p] = t;
        }
        return when;
    }

    int round(int orders, int what) {
        check(orders >= 0 && orders < 1 << street.orders.size());
        what(what, 1);
        int best = Integer.MAX_VALUE;
        int digits = 0;
        for (List<Integer> row : rowsOf(orders)) {
            int minutes = row.isEmpty() ? 0 : times(row)[row.get(row.size() - 1)];
            int number = 0;
            for (int p : row) {
                number = 10 * number + p + 1;
            }
            if (minutes < best || minutes == best && number < digits) {
                best = minutes;
                digits = number;
            }
        }
        return what == 0 ? best : digits;
    }

    boolean by(int orders, int minutes) {
        check(orders >= 0 && orders < 1 << street.orders.size() && minutes >= 1 && minutes <= 999);
        for (List<Integer> row : rowsOf(orders)) {
            int[] when = times(row);
            boolean fine = true;
            for (int i = 0; i < street.orders.size(); i++) {
                Order o = street.orders.get(i);
                if ((orders >> i & 1) == 1) {
                    fine &= now.day <= o.t && when[o.p] <= (o.t - now.day + 1) * minutes;
                }
            }
            if (fine) {
                return true;
            }
        }
        return false;
    }

    int share(int p, int x, int y, int n) {
        hasCell(p, x, y);
        check(n >= 0 && n <= 9999);
        int all = filmsOn(now, p);
        if (all == 0) {
            return 0;
        }
        int left = n;
        int[] first = null;
        for (int[] c : cellsOf(p)) {
            left -= n * now.at(p, c[0], c[1]).size() / all;
            if (first == null || now.at(p, c[0], c[1]).size() > now.at(p, first[0], first[1]).size()) {
                first = c;
            }
        }
        return n * now.at(p, x, y).size() / all + (first[0] == x && first[1] == y ? left : 0);
    }

    int ahead(int p, int days, int what) {
        hasPane(p);
        check(days >= 0 && days <= 60);
        what(what, 2);
        State s = now.twin();
        for (int i = 0; i < days; i++) {
            passDay(s);
        }
        return new int[] {filmsOn(s, p), seamsOf(s, p), sightsOf(s, p)}[what];
    }

    private State decadeBy(int seed, int q, int days) {
        State s = now.twin();
        for (int d = 0; d < days; d++) {
            for (int p = 0; p < street.panes.size(); p++) {
                if (!s.broken.contains(p)) {
                    seed = (int) (seed * 1103515245L + 12345L);
                    int bits = (int) (((seed & 0xFFFFFFFFL) % (1L << 31)) / 65536);
                    if (bits % 16 < q) {
                        smash(s, p);
                    }
                }
            }
            passDay(s);
        }
        return s;
    }

    int decade(int seed, int q, int days, int what) {
        check(q >= 0 && q <= 16 && days >= 1 && days <= 60);
        what(what, 2);
        State s = decadeBy(seed, q, days);
        return new int[] {s.all(), s.broken.size(), s.washed - now.washed}[what];
    }

    int span(int seed, int many, int q, int days, int what, int p) {
        check(many >= 1 && many <= 20 && q >= 0 && q <= 16 && days >= 1 && days <= 60);
        what(what, 2);
        check(p >= 0 && p < street.panes.size());
        int[] all = {Integer.MAX_VALUE, 0, 0};
        for (int i = 0; i < many; i++) {
            State s = decadeBy(seed + i, q, days);
            all[0] = Math.min(all[0], s.all());
            all[1] = Math.max(all[1], s.all());
            all[2] += s.broken.contains(p) ? 0 : 1;
        }
        return all[what];
    }

    int image() {
        if (images.size() == 2) {
            return -1;
        }
        List<State> twins = new ArrayList<>();
        for (State s : before) {
            twins.add(s.twin());
        }
        images.add(new Image(now.twin(), twins));
        return images.size();
    }

    int restore() {
        if (images.isEmpty()) {
            return -1;
        }
        Image i = images.remove(images.size() - 1);
        now = i.now;
        before = i.before;
        refusedSteps = 0;
        return images.size();
    }

    int status(int what) {
        return what >= 0 && what <= 2 ? status[what] : -1;
    }

    int count(int what) {
        return what == 0 ? images.size() : what == 1 ? tape.length() : what == 2 ? before.size() : -1;
    }

    // ---- refusals ----

    private void check(boolean fine) {
        if (!fine) {
            status[2]++;
            throw new IllegalArgumentException();
        }
    }

    private void what(int what, int last) {
        check(what >= 0 && what <= last);
    }

    private void hasPane(int p) {
        if (p < 0 || p >= street.panes.size()) {
            status[1]++;
            throw new NoSuchElementException();
        }
    }

    private void hasOrder(int i) {
        if (i < 0 || i >= street.orders.size()) {
            status[1]++;
            throw new NoSuchElementException();
        }
    }

    private void hasCell(int p, int x, int y) {
        hasPane(p);
        if (x < 0 || y < 0 || x >= street.panes.get(p).w || y >= street.panes.get(p).h) {
            status[0]++;
            throw new IndexOutOfBoundsException();
        }
    }
}
