import java.util.Arrays;
import java.util.NoSuchElementException;

/** Window cleaners of time: panes of cells on which a film of each day settles, wiped by texts. */
public final class PaneDays {
    public static final int NONE = -1;

    private static final int PANES = 5;
    private static final int CELLS = 16;
    private static final int ORDERS = 12;
    private static final int RAINS = 12;
    private static final int CLAUSES = 60;
    private static final int HELD = 30;
    private static final int LAST_DAY = 200;
    private static final int WORKS = 8;
    private static final int IMAGES = 2;
    private static final int LINES = 8;
    private static final int OPEN = 6;
    private static final int LAW_BYTES = 150;
    private static final int WORK_BYTES = 200;
    private static final int BOOK_BYTES = 100;
    private static final int DAYS_AHEAD = 60;

    private static final int CANT_STAND = 1;
    private static final int NONE_SUCH = 2;
    private static final int TOO_MANY = 3;

    private final Tape tape = new Tape();
    private Street street = new Street();
    private Street spareStreet = new Street();
    private Law law = new Law();
    private Law spareLaw = new Law();
    private Book book = new Book();
    private Book spareBook = new Book();
    private final Gaze gaze = new Gaze();
    private final Rounds rounds = new Rounds();
    private final Past past = new Past();
    private final Weather weather = new Weather();
    private final Work job = new Work(past.now, weather);
    private final Past[] images = new Past[IMAGES];
    private int imageCount;
    private int refusedSteps;
    private final int[] refusedCalls = new int[3];

    public PaneDays() {
    }

    public int feed(int a, int b, int c, int d, int e) {
        if (!tape.hasRoom()) {
            return NONE;
        }
        tape.put(a);
        tape.put(b);
        tape.put(c);
        tape.put(d);
        tape.put(e);
        return tape.count;
    }

    public int street(int n) throws IllegalArgumentException {
        beginText(n, Tape.ROOM);
        boolean stands = spareStreet.read(tape);
        tape.count = 0;
        if (!stands) {
            return tape.fault - 10;
        }
        Street before = street;
        street = spareStreet;
        spareStreet = before;
        law.forget();
        book.forget();
        past.forget();
        imageCount = 0;
        refusedSteps = 0;
        return street.panes;
    }

    public int law(int n) throws IllegalArgumentException {
        beginText(n, LAW_BYTES);
        boolean stands = spareLaw.read(tape);
        tape.count = 0;
        if (!stands) {
            return tape.fault - 10;
        }
        Law before = law;
        law = spareLaw;
        spareLaw = before;
        return 1;
    }

    public int work(int n) throws IllegalArgumentException {
        beginText(n, WORK_BYTES);
        if (past.works >= WORKS) {
            tape.count = 0;
            return -20;
        }
        boolean stands = job.read(tape, street);
        tape.count = 0;
        if (!stands) {
            return tape.fault - 10;
        }
        past.keep();
        job.doAll(street, law);
        refusedSteps = job.refused;
        return job.done;
    }

    public int book(int n) throws IllegalArgumentException {
        beginText(n, BOOK_BYTES);
        boolean stands = spareBook.read(tape);
        tape.count = 0;
        if (!stands) {
            return tape.fault - 10;
        }
        Book before = book;
        book = spareBook;
        spareBook = before;
        return book.lines;
    }

    public int fault() {
        return tape.place;
    }

    public int undo() {
        if (past.works == 0) {
            return -1;
        }
        past.goBack();
        refusedSteps = 0;
        return past.works;
    }

    public int told(int what) throws IllegalArgumentException {
        needWhat(what, 8);
        switch (what) {
            case 0:
                return street.panes;
            case 1:
                return street.orders;
            case 2:
                return street.rains;
            case 3:
                return past.now.day;
            case 4:
                return past.now.filmsOnAll();
            case 5:
                return past.now.onRag;
            case 6:
                return past.now.washed;
            case 7:
                return book.lines;
            default:
                return refusedSteps;
        }
    }

    public int pane(int pane, int what) throws NoSuchElementException, IllegalArgumentException {
        needPane(pane);
        needWhat(what, 5);
        switch (what) {
            case 0:
                return street.wide[pane];
            case 1:
                return street.high[pane];
            case 2:
                return street.along[pane];
            case 3:
                return street.floor[pane];
            case 4:
                return past.now.filmsOn(pane);
            default:
                return past.now.isBroken(pane) ? 1 : 0;
        }
    }

    public int shows(int pane, int x, int y) throws IndexOutOfBoundsException, NoSuchElementException {
        return past.now.shown(needCell(pane, x, y));
    }

    public int deep(int pane, int x, int y) throws IndexOutOfBoundsException, NoSuchElementException {
        return past.now.depth[needCell(pane, x, y)];
    }

    public int film(int pane, int x, int y, int n) throws IndexOutOfBoundsException, NoSuchElementException {
        return past.now.behind(needCell(pane, x, y), n);
    }

    public int films(int day, int what) throws IllegalArgumentException {
        need(day >= 1 && day <= LAST_DAY);
        needWhat(what, 1);
        return what == 0 ? past.now.rag[day] : past.now.filmsOf(day);
    }

    public int have(int pane, int day) throws NoSuchElementException, IllegalArgumentException {
        needPane(pane);
        need(day >= 1 && day <= LAST_DAY);
        return gaze.cellsHaving(past.now, pane, day);
    }

    public int showing(int pane, int day) throws NoSuchElementException, IllegalArgumentException {
        needPane(pane);
        need(day >= 0 && day <= LAST_DAY);
        return gaze.cellsShowing(past.now, pane, street.cells[pane], day);
    }

    public boolean settles(int pane, int x, int y) throws IndexOutOfBoundsException, NoSuchElementException {
        int cell = needCell(pane, x, y);
        Glass now = past.now;
        if (now.isBroken(pane) || now.day >= LAST_DAY) {
            return false;
        }
        return weather.wouldSettle(now, street, law, cell);
    }

    public int order(int order, int what) throws NoSuchElementException, IllegalArgumentException {
        needOrder(order);
        needWhat(what, 5);
        return what == 5 ? orderState(order) : street.part(order, what);
    }

    public int needs(int order) throws NoSuchElementException {
        needOrder(order);
        return past.now.outsideOf(street.cellOf(order), street.part(order, Street.DAY));
    }

    public int lost() {
        for (int i = 0; i < street.orders; i++) {
            if (orderState(i) >= 2) {
                return i;
            }
        }
        return NONE;
    }

    public int cost(int pane, int cells, int day) throws NoSuchElementException, IllegalArgumentException {
        needPane(pane);
        needCells(pane, cells);
        need(day >= 1 && day <= LAST_DAY);
        return gaze.costOf(past.now, pane, cells, day);
    }

    public int view(int pane, int cells, int what) throws NoSuchElementException, IllegalArgumentException {
        needPane(pane);
        needCells(pane, cells);
        needWhat(what, 1);
        int day = gaze.bestDay(past.now, pane, cells);
        return what == 0 || day == NONE ? day : gaze.costOf(past.now, pane, cells, day);
    }

    public int seams(int pane) throws NoSuchElementException {
        needPane(pane);
        return gaze.countSeams(past.now, pane, street.cells[pane]);
    }

    public int sights(int pane) throws NoSuchElementException {
        needPane(pane);
        return gaze.countDaysShown(past.now, pane);
    }

    public int alike(int pane, int other) throws NoSuchElementException {
        needPane(pane);
        needPane(other);
        return gaze.sameCells(past.now, pane, other, street.cells[pane] & street.cells[other]);
    }

    public int oldest(int pane, int what) throws NoSuchElementException, IllegalArgumentException {
        needPane(pane);
        needWhat(what, 1);
        return what == 0 ? gaze.earliest(past.now, pane) : gaze.latestHidden(past.now, pane);
    }

    public int thick() {
        return past.now.thickest();
    }

    public int patch(int pane, int what) throws NoSuchElementException, IllegalArgumentException {
        needPane(pane);
        needWhat(what, 1);
        gaze.findPatch(past.now, pane, street.cells[pane]);
        return what == 0 ? gaze.patchCells : gaze.patchDay;
    }

    public int tells(int pane) throws NoSuchElementException {
        needPane(pane);
        return book.depths(past.now, pane, street.cells[pane]);
    }

    public int look(int pane, int what) throws NoSuchElementException, IllegalArgumentException {
        needPane(pane);
        needWhat(what, 1);
        return book.nextLook(past.now, pane, street.cells[pane], what == 1);
    }

    public int cover(int pane, int cells, int r, int what) throws NoSuchElementException, IllegalArgumentException {
        needPane(pane);
        needCells(pane, cells);
        need(r >= 0 && r <= 6);
        needWhat(what, 1);
        return gaze.fewestCircles(street.cells[pane], cells, r, what == 1);
    }

    public int game(int pane, int k, int what) throws NoSuchElementException, IllegalArgumentException {
        needPane(pane);
        need(k >= 1 && k <= HELD);
        needWhat(what, 1);
        int moves = gaze.winningCells(past.now, pane, k);
        return what == 1 ? moves : moves == 0 ? 0 : 1;
    }

    public int round(int orders, int what) throws IllegalArgumentException {
        needOrders(orders);
        needWhat(what, 1);
        rounds.walkFreely(street, orders);
        return what == 0 ? rounds.fewest : rounds.bestRow;
    }

    public boolean by(int orders, int minutes) throws IllegalArgumentException {
        needOrders(orders);
        need(minutes >= 1 && minutes <= 999);
        rounds.walkInTime(street, orders, past.now.day, minutes);
        return rounds.fewest != NONE;
    }

    public int share(int pane, int x, int y, int n)
            throws IndexOutOfBoundsException, NoSuchElementException, IllegalArgumentException {
        int cell = needCell(pane, x, y);
        need(n >= 0 && n <= 9999);
        return gaze.shareOf(past.now, cell, n);
    }

    public int ahead(int pane, int days, int what) throws NoSuchElementException, IllegalArgumentException {
        needPane(pane);
        need(days >= 0 && days <= DAYS_AHEAD);
        needWhat(what, 2);
        weather.foresee(past.now, street, law, days);
        Glass then = weather.then;
        switch (what) {
            case 0:
                return then.filmsOn(pane);
            case 1:
                return gaze.countSeams(then, pane, street.cells[pane]);
            default:
                return gaze.countDaysShown(then, pane);
        }
    }

    public int decade(int seed, int q, int days, int what) throws IllegalArgumentException {
        needDecade(q, days);
        needWhat(what, 2);
        weather.foresee(past.now, street, law, days);
        weather.drawDecade(seed, q, days, street.panes, past.now.broken);
        switch (what) {
            case 0:
                return weather.filmsLeft;
            case 1:
                return Integer.bitCount(weather.brokenThen);
            default:
                return weather.washedMore;
        }
    }

    public int span(int seed, int many, int q, int days, int what, int pane) throws IllegalArgumentException {
        need(many >= 1 && many <= 20);
        needDecade(q, days);
        needWhat(what, 2);
        need(pane >= 0 && pane < street.panes);
        weather.foresee(past.now, street, law, days);
        int fewest = PANES * CELLS * HELD;
        int most = 0;
        int whole = 0;
        for (int i = 0; i < many; i++) {
            weather.drawDecade(seed + i, q, days, street.panes, past.now.broken);
            fewest = Math.min(fewest, weather.filmsLeft);
            most = Math.max(most, weather.filmsLeft);
            whole += 1 - (weather.brokenThen >> pane & 1);
        }
        return what == 0 ? fewest : what == 1 ? most : whole;
    }

    public int image() {
        if (imageCount >= IMAGES) {
            return -1;
        }
        Past image = images[imageCount];
        if (image == null) {
            image = new Past();
            images[imageCount] = image;
        }
        image.copy(past);
        imageCount++;
        return imageCount;
    }

    public int restore() {
        if (imageCount == 0) {
            return -1;
        }
        imageCount--;
        Past image = images[imageCount];
        if (image != null) {
            past.copy(image);
        }
        refusedSteps = 0;
        return imageCount;
    }

    public int status(int what) {
        return what >= 0 && what <= 2 ? refusedCalls[what] : NONE;
    }

    public int count(int what) {
        switch (what) {
            case 0:
                return imageCount;
            case 1:
                return tape.count;
            case 2:
                return past.works;
            default:
                return NONE;
        }
    }

    private void beginText(int n, int most) {
        need(n >= 0 && n <= tape.count && n <= most);
        tape.begin(n);
    }

    private int orderState(int order) {
        Glass now = past.now;
        int cell = street.cellOf(order);
        int wanted = street.part(order, Street.DAY);
        int until = street.part(order, Street.UNTIL);
        if (now.day > until) {
            return (now.met >> order & 1) == 1 ? 1 : 2;
        }
        if (now.day == until && now.shown(cell) == wanted) {
            return 1;
        }
        return now.day >= wanted && now.outsideOf(cell, wanted) == NONE ? 3 : 0;
    }

    private void need(boolean fine) {
        if (!fine) {
            refusedCalls[2]++;
            throw new IllegalArgumentException();
        }
    }

    private void needWhat(int what, int last) {
        need(what >= 0 && what <= last);
    }

    private void needCells(int pane, int cells) {
        need((cells & ~street.cells[pane]) == 0);
    }

    private void needOrders(int orders) {
        need((orders & -(1 << street.orders)) == 0);
    }

    private void needDecade(int q, int days) {
        need(q >= 0 && q <= 16 && days >= 1 && days <= DAYS_AHEAD);
    }

    private void needPane(int pane) {
        if (pane < 0 || pane >= street.panes) {
            refusedCalls[1]++;
            throw new NoSuchElementException();
        }
    }

    private void needOrder(int order) {
        if (order < 0 || order >= street.orders) {
            refusedCalls[1]++;
            throw new NoSuchElementException();
        }
    }

    private int needCell(int pane, int x, int y) {
        needPane(pane);
        if (x < 0 || x >= street.wide[pane] || y < 0 || y >= street.high[pane]) {
            refusedCalls[0]++;
            throw new IndexOutOfBoundsException();
        }
        return cellAt(pane, x, y);
    }

    private static int cellAt(int pane, int x, int y) {
        return CELLS * pane + 4 * y + x;
    }

    /** The TAPE, and a text at its head as it is read from the left, sign by sign. */
    private static final class Tape {
        static final int ROOM = 600;
        static final int END = 0;
        static final int NUMBER = 1;
        static final int WORD = 2;
        static final int SIGN = 3;
        static final int FAULTY = 4;
        /** Above every number that a text may hold, so that any count of digits fits. */
        static final int HUGE = 1000000;

        final byte[] bytes = new byte[ROOM];
        int count;
        int length;
        int kind;
        int from;
        int to;
        int value;
        int fault;
        int place = NONE;

        boolean hasRoom() {
            return count + 20 <= ROOM;
        }

        void put(int number) {
            for (int shift = 24; shift >= 0 && count < ROOM; shift -= 8) {
                bytes[count] = (byte) (number >> shift);
                count++;
            }
        }

        void begin(int n) {
            length = n;
            to = 0;
            fault = 0;
            place = NONE;
            step();
        }

        /** The first fault counts: what comes behind it is read no more. */
        void wrong(int reason) {
            if (fault == 0) {
                fault = reason;
                place = from;
                kind = FAULTY;
            }
        }

        void step() {
            if (fault != 0) {
                return;
            }
            from = to;
            while (from < length && bytes[from] == ' ') {
                from++;
            }
            to = from;
            value = 0;
            while (to < length && bytes[to] >= '0' && bytes[to] <= '9') {
                value = value >= HUGE ? HUGE : 10 * value + bytes[to] - '0';
                to++;
            }
            if (to > from || from >= length) {
                kind = to > from ? NUMBER : END;
                return;
            }
            while (to < length && bytes[to] >= 'a' && bytes[to] <= 'z') {
                to++;
            }
            kind = to > from ? WORD : SIGN;
            to = Math.max(to, from + 1);
        }

        boolean isWord(String word) {
            if (kind != WORD || to - from != word.length()) {
                return false;
            }
            for (int i = 0; i < word.length(); i++) {
                if (bytes[from + i] != word.charAt(i)) {
                    return false;
                }
            }
            return true;
        }

        boolean isSign(char sign) {
            return kind == SIGN && bytes[from] == sign;
        }

        void takeSign(char sign) {
            if (isSign(sign)) {
                step();
            } else {
                wrong(CANT_STAND);
            }
        }

        int takeNumber(int least, int most) {
            if (kind != NUMBER) {
                wrong(CANT_STAND);
                return least;
            }
            if (value < least || value > most) {
                wrong(NONE_SUCH);
                return least;
            }
            int taken = value;
            step();
            return taken;
        }

        boolean takeEnd() {
            if (kind != END) {
                wrong(CANT_STAND);
            }
            return fault == 0;
        }
    }

    /** What a STREET tells: where the PANES hang, the rain, the ORDERS. */
    private static final class Street {
        static final int PANE_CLAUSE = 0;
        static final int RAIN_CLAUSE = 1;
        static final int ORDER_CLAUSE = 2;
        static final int PACE_CLAUSE = 3;
        static final int HOLD_CLAUSE = 4;
        static final int PANE = 0;
        static final int ACROSS = 1;
        static final int UP = 2;
        static final int DAY = 3;
        static final int UNTIL = 4;
        static final int PARTS = 5;

        int panes;
        final int[] wide = new int[PANES];
        final int[] high = new int[PANES];
        final int[] along = new int[PANES];
        final int[] floor = new int[PANES];
        final int[] cells = new int[PANES];
        int rains;
        final int[] rainOn = new int[LAST_DAY + 1];
        int orders;
        private final int[] order = new int[ORDERS * PARTS];
        int stepMinutes;
        int floorMinutes;
        int hold;

        Street() {
            forget();
        }

        int part(int which, int part) {
            return order[PARTS * which + part];
        }

        int cellOf(int which) {
            int at = PARTS * which;
            return cellAt(order[at + PANE], order[at + ACROSS], order[at + UP]);
        }

        boolean read(Tape tape) {
            forget();
            for (int i = 0; i <= CLAUSES && tape.fault == 0 && tape.kind != Tape.END; i++) {
                readClause(tape, i);
            }
            return tape.takeEnd();
        }

        private void forget() {
            panes = 0;
            rains = 0;
            orders = 0;
            stepMinutes = 1;
            floorMinutes = 3;
            hold = 20;
            Arrays.fill(rainOn, 0);
        }

        private void readClause(Tape tape, int before) {
            int clause = clauseOf(tape);
            if (clause == NONE) {
                tape.wrong(CANT_STAND);
            } else if (before >= CLAUSES || isFull(clause)) {
                tape.wrong(TOO_MANY);
            } else {
                tape.step();
                readNumbers(tape, clause);
                tape.takeSign(';');
            }
        }

        private static int clauseOf(Tape tape) {
            if (tape.isWord("pane")) {
                return PANE_CLAUSE;
            }
            if (tape.isWord("rain")) {
                return RAIN_CLAUSE;
            }
            if (tape.isWord("order")) {
                return ORDER_CLAUSE;
            }
            if (tape.isWord("pace")) {
                return PACE_CLAUSE;
            }
            return tape.isWord("hold") ? HOLD_CLAUSE : NONE;
        }

        private boolean isFull(int clause) {
            return clause == PANE_CLAUSE && panes >= PANES
                || clause == RAIN_CLAUSE && rains >= RAINS
                || clause == ORDER_CLAUSE && orders >= ORDERS;
        }

        private void readNumbers(Tape tape, int clause) {
            switch (clause) {
                case PANE_CLAUSE:
                    readPane(tape);
                    break;
                case RAIN_CLAUSE:
                    int day = tape.takeNumber(1, LAST_DAY);
                    rainOn[day] += tape.takeNumber(1, 9);
                    rains++;
                    break;
                case ORDER_CLAUSE:
                    readOrder(tape);
                    break;
                case PACE_CLAUSE:
                    stepMinutes = tape.takeNumber(1, 9);
                    floorMinutes = tape.takeNumber(1, 9);
                    break;
                default:
                    hold = tape.takeNumber(1, HELD);
            }
        }

        private void readPane(Tape tape) {
            int w = tape.takeNumber(1, 4);
            int h = tape.takeNumber(1, 4);
            wide[panes] = w;
            high[panes] = h;
            along[panes] = tape.takeNumber(0, 60);
            floor[panes] = tape.takeNumber(0, 9);
            int bits = 0;
            for (int y = 0; y < h; y++) {
                bits |= (1 << w) - 1 << 4 * y;
            }
            cells[panes] = bits;
            panes++;
        }

        private void readOrder(Tape tape) {
            int at = PARTS * orders;
            int pane = tape.takeNumber(0, panes - 1);
            order[at + PANE] = pane;
            order[at + ACROSS] = tape.takeNumber(0, wide[pane] - 1);
            order[at + UP] = tape.takeNumber(0, high[pane] - 1);
            int day = tape.takeNumber(1, LAST_DAY);
            order[at + DAY] = day;
            order[at + UNTIL] = tape.takeNumber(day, LAST_DAY);
            orders++;
        }
    }

    /** A LAW, kept with each sign behind what it joins, so that it is worked out without recursion. */
    private static final class Law {
        static final int DAY = 0;
        static final int ACROSS = 1;
        static final int UP = 2;
        static final int FLOOR = 3;
        static final int PANE = 4;
        static final int DEEP = 5;
        static final int SEEN = 6;
        static final int RAIN = 7;
        static final int NAMES = 8;
        /** In code a number stands for itself, the name i as -1 - i, a sign as one of these. */
        static final int PLUS = -9;
        static final int MINUS = -10;
        static final int TIMES = -11;
        static final int OVER = -12;
        static final int LEAVES = -13;
        static final int LEAST = -14;
        static final int MOST = -15;

        private final int[] code = new int[LAW_BYTES];
        private final int[] stack = new int[LAW_BYTES];
        private int length;

        Law() {
            forget();
        }

        void forget() {
            code[0] = 1;
            length = 1;
        }

        boolean read(Tape tape) {
            length = 0;
            readSum(tape, 0);
            return tape.takeEnd();
        }

        private void put(int sign) {
            if (length < LAW_BYTES) {
                code[length] = sign;
                length++;
            }
        }

        private void readSum(Tape tape, int open) {
            readProduct(tape, open);
            for (int i = 0; i < LAW_BYTES && (tape.isSign('+') || tape.isSign('-')); i++) {
                int sign = tape.isSign('+') ? PLUS : MINUS;
                tape.step();
                readProduct(tape, open);
                put(sign);
            }
        }

        private void readProduct(Tape tape, int open) {
            readUnit(tape, open);
            for (int i = 0; i < LAW_BYTES; i++) {
                int sign = tape.isSign('*') ? TIMES : tape.isSign('/') ? OVER : tape.isSign('%') ? LEAVES : 0;
                if (sign == 0) {
                    break;
                }
                tape.step();
                readUnit(tape, open);
                put(sign);
            }
        }

        /** All that may be opened is read here, as calls go at most eight deep. */
        private void readUnit(Tape tape, int open) {
            if (tape.kind == Tape.NUMBER) {
                put(tape.takeNumber(0, 999));
                return;
            }
            int name = nameOf(tape);
            if (name != NONE) {
                put(-1 - name);
                tape.step();
                return;
            }
            int pair = tape.isWord("least") ? LEAST : tape.isWord("most") ? MOST : 0;
            if (pair == 0 && !tape.isSign('(')) {
                tape.wrong(CANT_STAND);
            } else if (open >= OPEN) {
                tape.wrong(TOO_MANY);
            } else if (pair == 0) {
                tape.step();
                readSum(tape, open + 1);
                tape.takeSign(')');
            } else {
                tape.step();
                tape.takeSign('[');
                readSum(tape, open + 1);
                tape.takeSign(',');
                readSum(tape, open + 1);
                tape.takeSign(']');
                put(pair);
            }
        }

        private static int nameOf(Tape tape) {
            if (tape.isWord("day")) {
                return DAY;
            }
            if (tape.isWord("x")) {
                return ACROSS;
            }
            if (tape.isWord("y")) {
                return UP;
            }
            if (tape.isWord("floor")) {
                return FLOOR;
            }
            if (tape.isWord("pane")) {
                return PANE;
            }
            if (tape.isWord("deep")) {
                return DEEP;
            }
            if (tape.isWord("seen")) {
                return SEEN;
            }
            return tape.isWord("rain") ? RAIN : NONE;
        }

        /** All in one method, as calls go at most eight deep and this is the deepest. */
        int valueFor(int[] named) {
            int top = 0;
            for (int i = 0; i < length; i++) {
                int sign = code[i];
                if (sign >= -NAMES) {
                    stack[top] = sign >= 0 ? sign : named[-1 - sign];
                    top++;
                } else if (top >= 2) {
                    top--;
                    int a = stack[top - 1];
                    int b = stack[top];
                    int joined;
                    switch (sign) {
                        case PLUS:
                            joined = a + b;
                            break;
                        case MINUS:
                            joined = a - b;
                            break;
                        case TIMES:
                            joined = a * b;
                            break;
                        case OVER:
                            joined = b == 0 ? 0 : a / b;
                            break;
                        case LEAVES:
                            joined = b == 0 ? 0 : a % b;
                            break;
                        case LEAST:
                            joined = a < b ? a : b;
                            break;
                        default:
                            joined = a > b ? a : b;
                    }
                    stack[top - 1] = joined;
                }
            }
            return top > 0 ? stack[top - 1] : 0;
        }
    }

    /** WORK: its STEPS in a row, an again ahead of those that it holds. */
    private static final class Work {
        static final int WIPE = 0;
        static final int CELL = 1;
        static final int CIRCLE = 2;
        static final int DAY = 3;
        static final int RINSE = 4;
        static final int BREAK = 5;
        static final int AGAIN = 6;
        /** The shortest STEP, "day;", has four bytes. */
        static final int STEPS = WORK_BYTES / 4;
        static final int BEGUN = 200;

        private final int[] kind = new int[STEPS];
        private final int[] pane = new int[STEPS];
        private final int[] across = new int[STEPS];
        private final int[] up = new int[STEPS];
        private final int[] reach = new int[STEPS];
        private final int[] number = new int[STEPS];
        private final int[] behind = new int[STEPS];
        private final Glass glass;
        private final Weather weather;
        private int steps;
        private int begun;
        int done;
        int refused;

        Work(Glass glass, Weather weather) {
            this.glass = glass;
            this.weather = weather;
        }

        boolean read(Tape tape, Street street) {
            steps = 0;
            readSteps(tape, street, 0);
            return tape.takeEnd();
        }

        private void readSteps(Tape tape, Street street, int open) {
            for (int i = 0; i < STEPS && tape.kind == Tape.WORD; i++) {
                readStep(tape, street, open);
                tape.takeSign(';');
            }
        }

        private void readStep(Tape tape, Street street, int open) {
            int what = kindOf(tape);
            if (what == NONE || steps >= STEPS) {
                tape.wrong(CANT_STAND);
                return;
            }
            if (what == AGAIN && open >= OPEN) {
                tape.wrong(TOO_MANY);
                return;
            }
            int at = steps;
            steps++;
            kind[at] = what;
            tape.step();
            if (what == AGAIN) {
                number[at] = tape.takeNumber(0, 20);
                tape.takeSign('[');
                readSteps(tape, street, open + 1);
                tape.takeSign(']');
            } else if (what != DAY && what != RINSE) {
                readPlace(tape, street, at);
            }
            behind[at] = steps;
        }

        private void readPlace(Tape tape, Street street, int at) {
            int what = kind[at];
            int p = tape.takeNumber(0, street.panes - 1);
            pane[at] = p;
            if (what == CELL || what == CIRCLE) {
                across[at] = tape.takeNumber(0, street.wide[p] - 1);
                up[at] = tape.takeNumber(0, street.high[p] - 1);
            }
            reach[at] = what == CIRCLE ? tape.takeNumber(0, 6) : 0;
            if (what != BREAK) {
                number[at] = tape.takeNumber(1, HELD);
            }
        }

        private static int kindOf(Tape tape) {
            if (tape.isWord("wipe")) {
                return WIPE;
            }
            if (tape.isWord("cell")) {
                return CELL;
            }
            if (tape.isWord("circle")) {
                return CIRCLE;
            }
            if (tape.isWord("day")) {
                return DAY;
            }
            if (tape.isWord("rinse")) {
                return RINSE;
            }
            if (tape.isWord("break")) {
                return BREAK;
            }
            return tape.isWord("again") ? AGAIN : NONE;
        }

        void doAll(Street street, Law law) {
            begun = 0;
            done = 0;
            refused = 0;
            doSteps(street, law, 0, steps, 0);
        }

        private void doSteps(Street street, Law law, int first, int last, int open) {
            int at = first;
            for (int i = 0; i < STEPS && at < last && begun < BEGUN; i++) {
                begun++;
                if (kind[at] == AGAIN) {
                    doAgain(street, law, at, open);
                } else if (isDone(street, law, at)) {
                    done++;
                } else {
                    refused++;
                }
                at = behind[at];
            }
        }

        private void doAgain(Street street, Law law, int at, int open) {
            if (open >= OPEN) {
                return;
            }
            for (int i = 0; i < number[at] && begun < BEGUN; i++) {
                doSteps(street, law, at + 1, behind[at], open + 1);
            }
        }

        private boolean isDone(Street street, Law law, int at) {
            int p = pane[at];
            switch (kind[at]) {
                case WIPE:
                    return glass.wipe(p, street.cells[p], number[at]);
                case CELL:
                case CIRCLE:
                    int circle = Gaze.circleAt(across[at], up[at], reach[at]) & street.cells[p];
                    return glass.wipe(p, circle, number[at]);
                case DAY:
                    return weather.passDay(glass, street, law);
                case RINSE:
                    return glass.rinse();
                default:
                    return glass.smash(p);
            }
        }
    }

    /** A BOOK of what was seen, and how deep a PANE may have been wiped by it. */
    private static final class Book {
        /** Bits 0 to 30. */
        static final int ALL_DEPTHS = 0x7FFFFFFF;

        int lines;
        private int cells;
        private final int[] cell = new int[LINES];
        private final int[] day = new int[LINES];

        void forget() {
            lines = 0;
            cells = 0;
        }

        boolean read(Tape tape) {
            forget();
            for (int i = 0; i <= LINES && tape.fault == 0 && tape.kind != Tape.END; i++) {
                readLine(tape);
            }
            return tape.takeEnd();
        }

        private void readLine(Tape tape) {
            if (tape.kind == Tape.NUMBER && tape.value <= 3 && lines >= LINES) {
                tape.wrong(TOO_MANY);
                return;
            }
            int x = tape.takeNumber(0, 3);
            boolean twice = tape.kind == Tape.NUMBER && tape.value <= 3 && (cells >> 4 * tape.value + x & 1) == 1;
            if (twice) {
                tape.wrong(NONE_SUCH);
            }
            int at = 4 * tape.takeNumber(0, 3) + x;
            int seen = tape.takeNumber(0, LAST_DAY);
            tape.takeSign(';');
            if (tape.fault == 0) {
                cell[lines] = at;
                day[lines] = seen;
                cells |= 1 << at;
                lines++;
            }
        }

        int depths(Glass glass, int pane, int ofPane) {
            if ((cells & ~ofPane) != 0) {
                return 0;
            }
            int left = ALL_DEPTHS;
            for (int i = 0; i < lines; i++) {
                left &= depthsShowing(glass, CELLS * pane + cell[i], day[i]);
            }
            return left;
        }

        private static int depthsShowing(Glass glass, int at, int seen) {
            if (seen == 0) {
                return ALL_DEPTHS & -(1 << glass.depth[at]);
            }
            int outside = glass.outsideOf(at, seen);
            return outside == NONE ? 0 : 1 << outside;
        }

        int nextLook(Glass glass, int pane, int ofPane, boolean howMany) {
            int depths = depths(glass, pane, ofPane);
            int unseen = ofPane & ~cells;
            int best = NONE;
            int fewest = NONE;
            for (int i = 0; i < CELLS; i++) {
                if ((unseen >> i & 1) == 1) {
                    int worst = leftAtWorst(depths, glass.depth[CELLS * pane + i]);
                    if (best == NONE || worst < fewest) {
                        best = i;
                        fewest = worst;
                    }
                }
            }
            return howMany ? fewest : best;
        }

        /** A DAY is on a CELL but once: only depths that leave it bare are not told apart by it. */
        private static int leftAtWorst(int depths, int films) {
            int bare = depths & -(1 << films);
            int shown = depths & ~bare;
            return Math.max(Integer.bitCount(bare), shown == 0 ? 0 : 1);
        }
    }

    /** The films on all CELLS and on the RAG, on one DAY. */
    private static final class Glass {
        /** Of each CELL a row of DAYS, the innermost film first. */
        private final int[] film = new int[PANES * CELLS * HELD];
        final int[] depth = new int[PANES * CELLS];
        final int[] rag = new int[LAST_DAY + 1];
        int onRag;
        int day;
        int washed;
        int broken;
        int met;

        void forget() {
            Arrays.fill(depth, 0);
            Arrays.fill(rag, 0);
            onRag = 0;
            day = 0;
            washed = 0;
            broken = 0;
            met = 0;
        }

        void copy(Glass from) {
            System.arraycopy(from.film, 0, film, 0, film.length);
            System.arraycopy(from.depth, 0, depth, 0, depth.length);
            System.arraycopy(from.rag, 0, rag, 0, rag.length);
            onRag = from.onRag;
            day = from.day;
            washed = from.washed;
            broken = from.broken;
            met = from.met;
        }

        boolean isBroken(int pane) {
            return (broken >> pane & 1) == 1;
        }

        int shown(int cell) {
            return depth[cell] == 0 ? 0 : film[HELD * cell + depth[cell] - 1];
        }

        int behind(int cell, int outer) {
            return outer < 0 || outer >= depth[cell] ? 0 : film[HELD * cell + depth[cell] - 1 - outer];
        }

        /** How many films are outside of that of a DAY; NONE: the CELL has none of it. */
        int outsideOf(int cell, int ofDay) {
            for (int i = 0; i < depth[cell]; i++) {
                if (behind(cell, i) == ofDay) {
                    return i;
                }
            }
            return NONE;
        }

        int filmsOn(int pane) {
            int films = 0;
            for (int i = 0; i < CELLS; i++) {
                films += depth[CELLS * pane + i];
            }
            return films;
        }

        int filmsOnAll() {
            int films = 0;
            for (int i = 0; i < PANES; i++) {
                films += filmsOn(i);
            }
            return films;
        }

        int filmsOf(int ofDay) {
            int films = 0;
            for (int i = 0; i < PANES * CELLS; i++) {
                if (outsideOf(i, ofDay) != NONE) {
                    films++;
                }
            }
            return films;
        }

        int thickest() {
            int best = NONE;
            int most = 0;
            for (int i = 0; i < PANES * CELLS; i++) {
                if (depth[i] > most) {
                    most = depth[i];
                    best = i;
                }
            }
            return best;
        }

        boolean wipe(int pane, int cells, int films) {
            boolean any = false;
            for (int i = 0; i < CELLS; i++) {
                int cell = CELLS * pane + i;
                if ((cells >> i & 1) == 1 && depth[cell] > 0) {
                    wipeCell(cell, Math.min(films, depth[cell]));
                    any = true;
                }
            }
            return any;
        }

        private void wipeCell(int cell, int films) {
            for (int i = 0; i < films; i++) {
                rag[behind(cell, i)]++;
            }
            depth[cell] -= films;
            onRag += films;
        }

        boolean rinse() {
            boolean any = onRag > 0;
            Arrays.fill(rag, 0);
            onRag = 0;
            return any;
        }

        boolean smash(int pane) {
            if (isBroken(pane)) {
                return false;
            }
            broken |= 1 << pane;
            for (int i = 0; i < CELLS; i++) {
                depth[CELLS * pane + i] = 0;
            }
            return true;
        }

        int wash(int pane, int films) {
            int taken = 0;
            for (int i = CELLS * pane; i < CELLS * pane + CELLS; i++) {
                int off = Math.min(films, depth[i]);
                depth[i] -= off;
                taken += off;
            }
            return taken;
        }

        void settle(int cell, int hold) {
            int at = HELD * cell;
            if (depth[cell] >= hold) {
                System.arraycopy(film, at + 1, film, at, depth[cell] - 1);
                depth[cell]--;
            }
            film[at + depth[cell]] = day;
            depth[cell]++;
        }
    }

    /** What is, and what was ahead of each WORK; an IMAGE is one of these too. */
    private static final class Past {
        final Glass now = new Glass();
        private final Glass[] before = new Glass[WORKS];
        int works;

        void forget() {
            now.forget();
            works = 0;
        }

        void keep() {
            if (works < WORKS) {
                slot(works).copy(now);
                works++;
            }
        }

        void goBack() {
            if (works > 0) {
                works--;
                now.copy(slot(works));
            }
        }

        void copy(Past from) {
            now.copy(from.now);
            works = from.works;
            for (int i = 0; i < works; i++) {
                slot(i).copy(from.slot(i));
            }
        }

        /** Made when first wanted and used again: what is made counts, and most slots stay unused. */
        private Glass slot(int i) {
            Glass glass = before[i];
            if (glass == null) {
                glass = new Glass();
                before[i] = glass;
            }
            return glass;
        }
    }

    /** How DAYS pass: rain, films that settle, and DECADES that are only thought of. */
    private static final class Weather {
        static final int ROW = DAYS_AHEAD + 1;

        final Glass then = new Glass();
        int filmsLeft;
        int brokenThen;
        int washedMore;
        private final int[] named = new int[Law.NAMES];
        /** Of each PANE by each DAY ahead how much was WASHED since now, were it not BROKEN. */
        private final int[] washedBy = new int[PANES * ROW];

        boolean passDay(Glass glass, Street street, Law law) {
            if (glass.day >= LAST_DAY) {
                return false;
            }
            judgeOrders(glass, street);
            glass.day++;
            int rain = street.rainOn[glass.day];
            for (int i = 0; i < street.panes; i++) {
                glass.washed += glass.wash(i, rain);
            }
            for (int i = 0; i < street.panes; i++) {
                settleOn(glass, street, law, i);
            }
            return true;
        }

        private static void judgeOrders(Glass glass, Street street) {
            for (int i = 0; i < street.orders; i++) {
                boolean due = street.part(i, Street.UNTIL) == glass.day;
                if (due && glass.shown(street.cellOf(i)) == street.part(i, Street.DAY)) {
                    glass.met |= 1 << i;
                }
            }
        }

        private void settleOn(Glass glass, Street street, Law law, int pane) {
            if (glass.isBroken(pane)) {
                return;
            }
            named[Law.DAY] = glass.day;
            named[Law.RAIN] = street.rainOn[glass.day];
            for (int i = 0; i < CELLS; i++) {
                int cell = CELLS * pane + i;
                if ((street.cells[pane] >> i & 1) == 1 && lawHolds(glass, street, law, cell)) {
                    glass.settle(cell, street.hold);
                }
            }
        }

        private boolean lawHolds(Glass glass, Street street, Law law, int cell) {
            int pane = cell / CELLS;
            named[Law.ACROSS] = cell & 3;
            named[Law.UP] = cell >> 2 & 3;
            named[Law.FLOOR] = street.floor[pane];
            named[Law.PANE] = pane;
            named[Law.DEEP] = glass.depth[cell];
            named[Law.SEEN] = glass.shown(cell);
            return law.valueFor(named) > 0;
        }

        boolean wouldSettle(Glass glass, Street street, Law law, int cell) {
            named[Law.DAY] = glass.day + 1;
            named[Law.RAIN] = 0;
            return lawHolds(glass, street, law, cell);
        }

        void foresee(Glass now, Street street, Law law, int days) {
            then.copy(now);
            for (int d = 1; d <= days; d++) {
                boolean passes = then.day < LAST_DAY;
                then.day += passes ? 1 : 0;
                for (int p = 0; p < street.panes; p++) {
                    int taken = 0;
                    if (passes) {
                        taken = then.wash(p, street.rainOn[then.day]);
                        settleOn(then, street, law, p);
                    }
                    washedBy[ROW * p + d] = washedBy[ROW * p + d - 1] + taken;
                }
            }
        }

        /**
         * Behind foresee: each CELL goes its own way, so that a SEED only says which PANES break and
         * when, and what a whole one has at the end is the same for all SEEDS.
         */
        void drawDecade(int seed, int q, int days, int panes, int broken) {
            int drawn = seed;
            brokenThen = broken;
            washedMore = 0;
            for (int d = 1; d <= days; d++) {
                for (int p = 0; p < panes; p++) {
                    if ((brokenThen >> p & 1) == 0) {
                        drawn = drawn * 1103515245 + 12345;
                        if ((drawn >> 16 & 0x7FFF) % 16 < q) {
                            brokenThen |= 1 << p;
                            washedMore += washedBy[ROW * p + d - 1];
                        }
                    }
                }
            }
            filmsLeft = 0;
            for (int p = 0; p < panes; p++) {
                if ((brokenThen >> p & 1) == 0) {
                    filmsLeft += then.filmsOn(p);
                    washedMore += washedBy[ROW * p + days];
                }
            }
        }
    }

    /** What can be seen on PANES. CELLS that a PANE has not are always bare. */
    private static final class Gaze {
        static final int LEFTMOST = 0x1111;
        static final int RIGHTMOST = 0x8888;
        static final int CIRCLES = 4;

        int patchCells;
        int patchDay;
        private final int[] mark = new int[LAST_DAY + 1];
        private final int[] circles = new int[CELLS];

        static int circleAt(int x, int y, int r) {
            int bits = 0;
            for (int i = 0; i < CELLS; i++) {
                if (Math.abs((i & 3) - x) + Math.abs((i >> 2) - y) <= r) {
                    bits |= 1 << i;
                }
            }
            return bits;
        }

        int cellsHaving(Glass glass, int pane, int day) {
            int bits = 0;
            for (int i = 0; i < CELLS; i++) {
                if (glass.outsideOf(CELLS * pane + i, day) != NONE) {
                    bits |= 1 << i;
                }
            }
            return bits;
        }

        int cellsShowing(Glass glass, int pane, int cells, int day) {
            int bits = 0;
            for (int i = 0; i < CELLS; i++) {
                if (glass.shown(CELLS * pane + i) == day) {
                    bits |= 1 << i;
                }
            }
            return bits & cells;
        }

        int costOf(Glass glass, int pane, int cells, int day) {
            int cost = cells == 0 ? NONE : 0;
            for (int i = 0; i < CELLS && cost != NONE; i++) {
                if ((cells >> i & 1) == 1) {
                    int outside = glass.outsideOf(CELLS * pane + i, day);
                    cost = outside == NONE ? NONE : cost + outside;
                }
            }
            return cost;
        }

        /** Later films are outside of earlier ones on each CELL: the latest DAY that all have costs least. */
        int bestDay(Glass glass, int pane, int cells) {
            int first = 0;
            while (first < CELLS - 1 && (cells >> first & 1) == 0) {
                first++;
            }
            int cell = CELLS * pane + first;
            for (int i = 0; i < glass.depth[cell]; i++) {
                int day = glass.behind(cell, i);
                if (costOf(glass, pane, cells, day) != NONE) {
                    return day;
                }
            }
            return NONE;
        }

        int countSeams(Glass glass, int pane, int cells) {
            int seams = 0;
            for (int i = 0; i < CELLS; i++) {
                if ((cells >> i & 1) == 1) {
                    boolean beside = (i & 3) < 3 && (cells >> i + 1 & 1) == 1;
                    boolean above = (cells >> i + 4 & 1) == 1;
                    seams += beside && isSeam(glass, pane, i, i + 1) ? 1 : 0;
                    seams += above && isSeam(glass, pane, i, i + 4) ? 1 : 0;
                }
            }
            return seams;
        }

        private static boolean isSeam(Glass glass, int pane, int one, int other) {
            return glass.shown(CELLS * pane + one) != glass.shown(CELLS * pane + other);
        }

        private void markFilms(Glass glass, int pane) {
            Arrays.fill(mark, 0);
            for (int i = CELLS * pane; i < CELLS * pane + CELLS; i++) {
                for (int k = 0; k < glass.depth[i]; k++) {
                    mark[glass.behind(i, k)] |= k == 0 ? 3 : 1;
                }
            }
        }

        int countDaysShown(Glass glass, int pane) {
            markFilms(glass, pane);
            int days = 0;
            for (int d = 1; d <= LAST_DAY; d++) {
                days += mark[d] >> 1;
            }
            return days;
        }

        int earliest(Glass glass, int pane) {
            markFilms(glass, pane);
            for (int d = 1; d <= LAST_DAY; d++) {
                if (mark[d] != 0) {
                    return d;
                }
            }
            return NONE;
        }

        int latestHidden(Glass glass, int pane) {
            markFilms(glass, pane);
            for (int d = LAST_DAY; d >= 1; d--) {
                if (mark[d] == 1) {
                    return d;
                }
            }
            return NONE;
        }

        int sameCells(Glass glass, int pane, int other, int cells) {
            int bits = 0;
            for (int i = 0; i < CELLS; i++) {
                if (glass.shown(CELLS * pane + i) == glass.shown(CELLS * other + i)) {
                    bits |= 1 << i;
                }
            }
            return bits & cells;
        }

        void findPatch(Glass glass, int pane, int cells) {
            patchCells = 0;
            patchDay = 0;
            for (int i = 0; i < CELLS; i++) {
                int day = glass.shown(CELLS * pane + i);
                if (day > 0) {
                    int many = Integer.bitCount(spread(1 << i, cellsShowing(glass, pane, cells, day)));
                    if (many > patchCells || many == patchCells && day > patchDay) {
                        patchCells = many;
                        patchDay = day;
                    }
                }
            }
        }

        private static int spread(int from, int within) {
            int bits = from;
            for (int i = 0; i < CELLS; i++) {
                bits |= (bits & ~RIGHTMOST) << 1 | (bits & ~LEFTMOST) >> 1 | bits << 4 | bits >> 4;
                bits &= within;
            }
            return bits;
        }

        int fewestCircles(int ofPane, int told, int r, boolean which) {
            for (int i = 0; i < CELLS; i++) {
                circles[i] = circleAt(i & 3, i >> 2, r);
            }
            for (int many = 0; many <= CIRCLES; many++) {
                int digits = pickCircles(ofPane, 0, many, told, 0);
                if (digits != NONE) {
                    return which ? digits : many;
                }
            }
            return NONE;
        }

        private int pickCircles(int ofPane, int first, int many, int open, int digits) {
            if (many <= 0) {
                return open == 0 ? digits : NONE;
            }
            for (int i = first; i < CELLS; i++) {
                if ((ofPane >> i & 1) == 1) {
                    int found = pickCircles(ofPane, i + 1, many - 1, open & ~circles[i], 16 * digits + i);
                    if (found != NONE) {
                        return found;
                    }
                }
            }
            return NONE;
        }

        /** A CELL counts like a heap of what is left of its films by k and 1, as in the game of Nim. */
        int winningCells(Glass glass, int pane, int k) {
            int all = 0;
            for (int i = CELLS * pane; i < CELLS * pane + CELLS; i++) {
                all ^= glass.depth[i] % (k + 1);
            }
            int bits = 0;
            for (int i = 0; i < CELLS; i++) {
                int films = glass.depth[CELLS * pane + i];
                int others = all ^ films % (k + 1);
                for (int off = 1; off <= k && off <= films; off++) {
                    if ((films - off) % (k + 1) == others) {
                        bits |= 1 << i;
                    }
                }
            }
            return bits;
        }

        int shareOf(Glass glass, int cell, int pence) {
            int first = cell / CELLS * CELLS;
            int all = glass.filmsOn(cell / CELLS);
            if (all == 0) {
                return 0;
            }
            int thickest = first;
            int left = pence;
            for (int i = first; i < first + CELLS; i++) {
                left -= pence * glass.depth[i] / all;
                if (glass.depth[i] > glass.depth[thickest]) {
                    thickest = i;
                }
            }
            return pence * glass.depth[cell] / all + (cell == thickest ? left : 0);
        }
    }

    /** Rounds over PANES, each come to once. */
    private static final class Rounds {
        static final int ANY_TIME = 1000000;

        int fewest;
        int bestRow;
        private final int[] latest = new int[PANES];

        void walkFreely(Street street, int orders) {
            Arrays.fill(latest, ANY_TIME);
            walk(street, orders);
        }

        void walkInTime(Street street, int orders, int day, int minutes) {
            Arrays.fill(latest, ANY_TIME);
            for (int i = 0; i < street.orders; i++) {
                if ((orders >> i & 1) == 1) {
                    int pane = street.part(i, Street.PANE);
                    int days = street.part(i, Street.UNTIL) - day + 1;
                    latest[pane] = Math.min(latest[pane], days > 0 ? days * minutes : NONE);
                }
            }
            walk(street, orders);
        }

        private void walk(Street street, int orders) {
            fewest = NONE;
            bestRow = 0;
            int panes = 0;
            for (int i = 0; i < street.orders; i++) {
                if ((orders >> i & 1) == 1) {
                    panes |= 1 << street.part(i, Street.PANE);
                }
            }
            goOn(street, panes, 0, 0, 0, 0);
        }

        /** PANES are tried rising, so that of rows alike in minutes the first one found stays. */
        private void goOn(Street street, int left, int along, int floor, int minutes, int row) {
            if (left == 0) {
                if (fewest == NONE || minutes < fewest) {
                    fewest = minutes;
                    bestRow = row;
                }
                return;
            }
            for (int p = 0; p < PANES; p++) {
                if ((left >> p & 1) == 1) {
                    int steps = Math.abs(street.along[p] - along);
                    int floors = Math.abs(street.floor[p] - floor);
                    int there = minutes + street.stepMinutes * steps + street.floorMinutes * floors;
                    if (there <= latest[p]) {
                        goOn(street, left & ~(1 << p), street.along[p], street.floor[p], there, 10 * row + p + 1);
                    }
                }
            }
        }
    }
}
