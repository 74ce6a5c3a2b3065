import java.io.IOException;

/** The promises 1 to 42, sentence by sentence: each is quoted, and has a test of its own at its edges. */
public final class EdgesTest {
    private static final String ONE = "street 'pane 1 1 0 0;' = 1";
    private static final String ROW = "street 'pane 4 1 0 0;' = 1";
    private static final String FOUR = "street 'pane 2 2 0 0;' = 1";
    private static final String BIG = "street 'pane 4 4 0 0;' = 1";
    private static final String IAE = " ! IllegalArgument";
    private static final String NSE = " ! NoSuchElement";
    private static final String IOOBE = " ! IndexOutOfBounds";

    private static Document doc;

    private static void of(int promise, String words, String... lines) {
        doc.quote(Integer.toString(promise), words);
        Script.run(promise + ": " + words, lines);
    }

    private static String times(int n, String text) {
        return text.repeat(n);
    }

    public static void main(String[] args) throws IOException {
        doc = new Document("../shared/DOC.md");
        newObject();
        feed();
        street();
        streetIsNew();
        law();
        work();
        book();
        fault();
        undo();
        told();
        toldRefused();
        pane();
        cells();
        films();
        haveAndShowing();
        settles();
        order();
        needsAndLost();
        cost();
        view();
        seamsAndSights();
        alikeAndOldest();
        thickAndPatch();
        tellsAndLook();
        cover();
        game();
        round();
        by();
        share();
        ahead();
        decade();
        span();
        image();
        restore();
        statusAndCount();
        fifthPane();
        fullTape();
        int missing = 0;
        for (String words : doc.unquoted()) {
            if (!words.startsWith("Terms: ")) {
                missing++;
                System.out.println("no test quotes " + words);
            }
        }
        System.out.println(doc.chapters() + " chapters, " + Script.asked() + " answers asked, " + Script.wrong() + " not as due");
        if (Script.wrong() + doc.wrong() + missing != 0 || doc.chapters() != 43) {
            System.exit(1);
        }
    }

    private static void newObject() {
        of(1, "A STREET without CLAUSES.",
            "told 0 = 0", "told 1 = 0", "told 2 = 0", "told 3 = 0", "told 4 = 0", "told 5 = 0", "told 6 = 0", "told 7 = 0", "told 8 = 0",
            "fault = -1", "lost = -1", "thick = -1", "undo = -1", "restore = -1", "count 0 = 0", "count 1 = 0", "count 2 = 0",
            "status 0 = 0", "status 1 = 0", "status 2 = 0", "films 1 0 = 0", "films 200 1 = 0", "round 0 0 = 0", "round 0 1 = 0",
            "by 0 1 = true", "decade 1 16 60 0 = 0", "decade 1 16 60 1 = 0", "decade 1 0 60 2 = 0", "pane 0 0" + NSE, "order 0 0" + NSE,
            "needs 0" + NSE, "shows 0 0 0" + NSE, "alike 0 0" + NSE, "round 1 0" + IAE, "by 1 1" + IAE, "span 1 1 0 1 0 0" + IAE,
            "status 0 = 0", "status 1 = 5", "status 2 = 3",
            // there are DAYS all the same, but no PANE to wipe
            "work 'day;rinse;again 2 [day;];' = 3", "told 3 = 3", "told 8 = 1", "work 'wipe 0 1;' = -8", "fault = 5",
            "work 'break 0;' = -8",
            "book '3 3 200;' = 1", "law '0' = 1", "image = 1", "restore = 0", "undo = 0");
    }

    private static void feed() {
        // "hold 9;pane 3 2 1 0;"
        of(2, "Twenty bytes come on the TAPE, of each number the highest first: how many there are",
            "feed 1752132708 540621680 1634624800 857748000 824193083 = 20", "count 1 = 20", "street 20 = 1", "pane 0 0 = 3",
            "pane 0 1 = 2",
            "pane 0 2 = 1", "pane 0 3 = 0", "count 1 = 0",
            // each of the five numbers in its place: four blanks each, and a byte that can't stand there
            "feed 538976289 538976288 538976288 538976288 538976288 = 20", "street 20 = -9", "fault = 3",
            "feed 538976288 -14671840 538976288 538976288 538976288 = 20", "street 20 = -9", "fault = 4",
            "feed 538976288 538976288 555753504 538976288 538976288 = 20", "street 20 = -9", "fault = 8",
            "feed 538976288 538976288 538976288 539041824 538976288 = 20", "street 20 = -9", "fault = 13",
            "feed 538976288 538976288 538976288 538976288 538976289 = 20", "street 20 = -9", "fault = 19",
            "feed -1 -1 -1 -1 -1 = 20", "feed 0 0 0 0 0 = 40", "feed -2147483648 2147483647 0 0 0 = 60", "count 1 = 60", "street 60 = -9",
            "fault = 0", "feed 0 0 0 0 0 = 20");
        of(2, "NONE, doing nothing, if there would be more than 600.",
            "tape '" + times(580, " ") + "' = 580", "feed 538976288 538976288 538976288 538976288 538976288 = 600",
            "feed 538976288 538976288 538976288 1752132708 540621627 = -1", "count 1 = 600", "street 600 = 0", "fault = -1");
        Script.run("2: a full TAPE stays as it is", "tape '" + times(592, " ") + "hold 1;!' = 600", "feed 1 2 3 4 5 = -1",
            "feed 0 0 0 0 0 = -1",
            "count 1 = 600", "street 601" + IAE, "feed 1 2 3 4 5 = -1", "street 600 = -9", "fault = 599", "feed 1 2 3 4 5 = 20",
            "tape '" + times(580, " ") + "' = 600", "street 0 = 0", "count 1 = 0", "feed 1 2 3 4 5 = 20");
    }

    private static void street() {
        of(3, "The first n bytes of the TAPE (empty then) are the STREET",
            "tape 'hold 1;pane 1 1 0 0;pane 9' = 40", "street 20 = 1", "count 1 = 0", "told 0 = 1", "street 1" + IAE,
            "tape 'pane 1 1 0 0;bad' = 20", "street 13 = 1", "count 1 = 0", "tape 'bad' = 20", "street 0 = 0", "count 1 = 0", "told 0 = 0",
            "tape 'pane 1 1 0 0;' = 20", "street 12 = -9", "fault = 12", "count 1 = 0", "street 0 = 0", "fault = -1");
        of(3, "how many PANES",
            "street '' = 0", "street 'hold 1;' = 0", "street 'pane 1 1 0 0;' = 1", "street '" + times(5, "pane 1 1 0 0;") + "' = 5",
            "told 0 = 5", "street 'pane 1 1 0 0;pace 1 1;pane 1 1 0 0;rain 1 1;' = 2", "told 0 = 2");
        of(3, "or the FAULT less 10 (all stays).",
            FOUR, "law 'x' = 1", "book '0 0 1;' = 1", "work 'day;cell 0 1 0 1;rinse;rinse;' = 3", "image = 1", "street 'bad' = -9",
            "street 'hold 0;' = -8", "street '" + times(6, "pane 1 1 0 0;") + "' = -7", "fault = 65", "told 0 = 1", "told 3 = 1",
            "told 4 = 1",
            "told 7 = 1", "told 8 = 1", "count 0 = 1", "count 1 = 0", "count 2 = 1", "settles 0 0 0 = false", "settles 0 1 0 = true",
            "pane 0 0 = 2", "shows 0 1 1 = 1", "undo = 0", "restore = 0", "told 4 = 1",
            // a STREET that is wrong only at its end leaves nothing of its own
            "street 'pane 4 4 60 9;rain 1 9;order 0 3 3 1 1;pace 9 9;hold 1;hold 0;' = -8", "fault = 60", "told 1 = 0", "told 2 = 0",
            "pane 0 0 = 2", "pane 0 2 = 0", "shows 0 3 3" + IOOBE, "round 1 0" + IAE, "work 'day;day;' = 2", "deep 0 1 1 = 3");
        of(3, "IllegalArgumentException: n is not 0 to the TAPE's bytes (it stays).",
            "street -1" + IAE, "street 1" + IAE, "street -2147483648" + IAE, "street 2147483647" + IAE, "street 0 = 0",
            "tape 'pane 1 1 0 0;' = 20",
            "street 21" + IAE, "street -1" + IAE, "count 1 = 20", "fault = -1", "status 2 = 6", "street 20 = -9", "fault = 13",
            "tape 'pane 1 1 0 0;' = 20", "street 99" + IAE, "fault = 13", "street 13 = 1", "fault = -1", "tape 'hold 1;' = 20",
            "street 600" + IAE,
            "told 0 = 1", "count 1 = 20");
    }

    private static void streetIsNew() {
        of(3, "(DAY 0; no LAW, BOOK, IMAGES, nothing to undo)",
            "street 'pane 2 1 5 1;rain 2 1;order 0 0 0 1 1;pace 2 2;hold 2;' = 1", "law '1-x' = 1", "book '0 0 1;1 0 0;' = 2",
            "work 'day;day;day;cell 0 0 0 1;' = 4", "work 'break 0;rinse;rinse;' = 2", "image = 1", "image = 2", "told 8 = 1",
            "street 'pane 2 1 5 1;' = 1", "told 1 = 0", "told 2 = 0", "told 3 = 0", "told 4 = 0", "told 5 = 0", "told 6 = 0", "told 7 = 0",
            "told 8 = 0", "pane 0 5 = 0", "settles 0 1 0 = true", "tells 0 = 2147483647", "count 0 = 0", "restore = -1", "count 2 = 0",
            "undo = -1", "image = 1", "lost = -1", "films 3 0 = 0", "work 'day;day;day;' = 3", "deep 0 0 0 = 3", "told 6 = 0",
            "order 0 0" + NSE,
            // the same text again begins anew, too
            "street 'pane 2 1 5 1;' = 1", "told 3 = 0", "told 4 = 0", "count 0 = 0", "count 2 = 0");
        Script.run("3: nothing to undo, so 8 WORKS fit again", ONE, "work '' = 0", "work '' = 0", "work '' = 0", "work '' = 0",
            "work '' = 0",
            "work '' = 0", "work '' = 0", "work '' = 0", "work '' = -20", ONE, "work 'day;' = 1", "count 2 = 1");
    }

    private static void law() {
        of(4, "Likewise the LAW (n to 150): 1.",
            FOUR, "law 'x' = 1", "count 1 = 0", "fault = -1", "law 0 = -9", "fault = 0", "law 1" + IAE, "law -1" + IAE,
            "law -2147483648" + IAE,
            "law 2147483647" + IAE, "settles 0 0 0 = false", "settles 0 1 0 = true",
            // a FAULT: all stays
            "law 'y+' = -9", "law '1000' = -8", "law '(((((((' = -7", "count 1 = 0", "settles 0 0 1 = false", "settles 0 1 0 = true",
            "law 'y' = 1", "settles 0 0 1 = true", "settles 0 1 0 = false", "tape 'x+y bad' = 20", "law 3 = 1", "settles 0 1 0 = true",
            "tape '" + times(160, " ") + "' = 160", "law 151" + IAE, "law 160" + IAE, "law 161" + IAE, "count 1 = 160", "law 150 = -9",
            "fault = 150",
            "count 1 = 0", "law '" + times(75, "0 ") + "' = -9", "fault = 2", "law '1" + times(149, " ") + "' = 1", "settles 0 0 0 = true",
            // a LAW does not touch the DAY, films, WORKS or IMAGES
            "work 'day;' = 1", "image = 1", "law '0' = 1", "told 3 = 1", "told 4 = 4", "count 2 = 1", "count 0 = 1", "status 2 = 7");
    }

    private static void work() {
        of(5, "Likewise WORK (n to 200), which is done: how many STEPS were done (agains not counted, nor REFUSED ones)",
            ONE, "work 'day;rinse;wipe 0 1;again 2 [day;rinse;];' = 5", "told 8 = 2", "work 'again 0 [day;];' = 0", "told 8 = 0",
            "work '' = 0",
            "work 0 = 0", "work 1" + IAE, "work -1" + IAE, "tape '" + times(204 / 4, "day;") + "' = 220", "work 201" + IAE,
            "work 220" + IAE,
            "count 1 = 220", "work 200 = 50", "count 1 = 0", "told 3 = 53", "count 2 = 5", "tape 'day;day;bad' = 20", "work 4 = 1",
            "told 3 = 54",
            "work -2147483648" + IAE, "work 2147483647" + IAE, "status 2 = 6");
        of(5, "or the FAULT less 10 (none is)",
            ONE, "work 'day;day;bad;' = -9", "fault = 8", "told 3 = 0", "count 2 = 0", "count 1 = 0", "work 'day;wipe 0 31;' = -8",
            "told 3 = 0",
            "work 'day;" + times(7, "again 1[") + "' = -7", "fault = 52", "told 3 = 0", "work 'rinse;' = 0", "told 8 = 1",
            "work 'rinse;bad' = -9",
            "told 8 = 1", "work 'day;day' = -9", "told 8 = 1", "count 2 = 1", "undo = 0");
        of(5, "-20 ahead of that (nothing is read, there is no FAULT, the TAPE is empty then): 8 WORKS are there that were not undone.",
            ONE, "work 'day;' = 1", "work 'day;' = 1", "work 'rinse;' = 0", "work '' = 0", "work 'day;' = 1", "work 'day;' = 1",
            "work 'day;' = 1",
            "work 'day;rinse;rinse;' = 1", "count 2 = 8", "work 'bad' = -20", "fault = -1", "count 1 = 0", "count 2 = 8", "told 3 = 6",
            "told 8 = 2",
            "law 'bad' = -9", "fault = 0", "work 'day;' = -20", "fault = -1", "told 3 = 6", "work 0 = -20", "tape 'day;' = 20",
            "work 4 = -20",
            "count 1 = 0", "work 1" + IAE, "work -1" + IAE, "tape '" + times(220, " ") + "' = 220", "work 201" + IAE, "count 1 = 220",
            "work 200 = -20",
            "count 1 = 0", "undo = 7", "told 3 = 5", "work 'bad' = -9", "count 2 = 7", "work 'day;day;' = 2", "count 2 = 8",
            "work '' = -20",
            "undo = 7", "undo = 6", "work '' = 0", "work '' = 0", "work '' = -20");
        Script.run("5: WORKS of an IMAGE count", ONE, "work '' = 0", "work '' = 0", "image = 1", "work '' = 0", "work '' = 0",
            "work '' = 0",
            "work '' = 0", "work '' = 0", "work '' = 0", "image = 2", "work '' = -20", "restore = 1", "work '' = -20", "restore = 0",
            "count 2 = 2",
            "work '' = 0", "count 2 = 3");
    }

    private static void book() {
        of(6, "Likewise the BOOK (n to 100): how many lines.",
            "book '' = 0", "book '0 0 0;' = 1", "book '0 0 0;1 0 200;' = 2", "told 7 = 2", "count 1 = 0", "book 1" + IAE, "book -1" + IAE,
            "book -2147483648" + IAE, "book 2147483647" + IAE, "told 7 = 2", "book 'bad' = -9", "fault = 0", "book '0 0 201;' = -8",
            "fault = 4",
            "book '0 0 1;0 1 1;0 2 1;0 3 1;1 0 1;1 1 1;1 2 1;1 3 1;2 0 1;' = -7", "fault = 48", "told 7 = 2", "count 1 = 0",
            "tape '0 0 1;" + times(110, " ") + "' = 120", "book 101" + IAE, "book 120" + IAE, "book 121" + IAE, "count 1 = 120",
            "book 100 = 1",
            "count 1 = 0", "told 7 = 1", "tape '0 0 1;1 1 1;bad' = 20", "book 6 = 1",
            "book '0 0 1;0 1 1;0 2 1;0 3 1;1 0 1;1 1 1;1 2 1;1 3 1;' = 8",
            "told 7 = 8", "book 0 = 0", "told 7 = 0", "status 2 = 7");
        Script.run("6: all stays", FOUR, "work 'day;day;' = 2", "book '0 0 1;' = 1", "tells 0 = 2", "book '0 0 2;0 1 1;bad' = -9",
            "tells 0 = 2",
            "book '1 1 2;' = 1", "tells 0 = 1", "told 3 = 2", "count 2 = 1",
            // CELLS that no PANE has may stand in it
            "book '3 3 1;' = 1", "tells 0 = 0");
    }

    private static void fault() {
        of(7, "The place of the FAULT of the latest text; NONE without.",
            "fault = -1", "street '    x' = -9", "fault = 4", "fault = 4", "street '' = 0", "fault = -1", "law '1+)' = -9", "fault = 2",
            "law '1' = 1",
            "fault = -1", "work 'day;x' = -9", "fault = 4", "work 'day;' = 1", "fault = -1", "book '0 9' = -8", "fault = 2", "book '' = 0",
            "fault = -1",
            // it is of the latest text, whichever that is, and stays at calls that take no text
            "street 'x' = -9", "law ' x y' = -9", "fault = 3", "work 1" + IAE, "fault = 3", "law -1" + IAE, "fault = 3", "image = 1",
            "restore = 0",
            "fault = 3", "undo = 0", "fault = 3", "tape 'day;' = 20", "fault = 3", "told 9" + IAE, "fault = 3", "work 4 = 1", "fault = -1",
            "tape '" + times(600, " ") + "' = 600", "street 600 = 0", "fault = -1", "street '" + times(600, "a") + "' = -9", "fault = 0",
            "street '" + times(599, " ") + "a' = -9", "fault = 599");
    }

    private static void undo() {
        of(8, "The latest WORK that was done is undone: how many are left",
            "street 'pane 2 1 0 0;rain 2 1;order 0 0 0 1 1;' = 1", "work 'day;' = 1", "work 'day;wipe 0 1;' = 2",
            "work 'break 0;rinse;rinse;' = 2",
            "told 8 = 1", "undo = 2", "told 8 = 0", "pane 0 5 = 0", "told 5 = 2", "films 2 0 = 2", "told 6 = 2", "order 0 5 = 1",
            "undo = 1",
            "told 3 = 1", "told 4 = 2", "told 5 = 0", "films 2 0 = 0", "films 1 1 = 2", "told 6 = 0", "order 0 5 = 1",
            "work 'wipe 0 1;day;' = 2",
            "order 0 5 = 2", "undo = 1", "work 'day;' = 1", "order 0 5 = 1", "undo = 1", "undo = 0", "told 3 = 0", "told 4 = 0",
            "order 0 5 = 0",
            // a WORK of nothing but REFUSED STEPS, or of none, was done, too; one with a FAULT was not
            "work 'rinse;' = 0", "work '' = 0", "work 'bad' = -9", "count 2 = 2", "undo = 1", "undo = 0",
            // the LAW, the BOOK and the TAPE are not WORK
            "work 'day;' = 1", "law 'x' = 1", "book '0 0 1;' = 1", "tape 'day;' = 20", "undo = 0", "settles 0 0 0 = false", "told 7 = 1",
            "count 1 = 20");
        of(8, "-1: there is none.", "undo = -1", "undo = -1", ONE, "undo = -1", "work 'day;' = 1", "undo = 0", "undo = -1", "told 3 = 0",
            "count 2 = 0",
            "work 'bad' = -9", "undo = -1", "work 'day;' = 1", ONE, "undo = -1");
        Script.run("8: all eight, one by one", ONE, "work 'day;' = 1", "work 'day;' = 1", "work 'day;' = 1", "work 'day;' = 1",
            "work 'day;' = 1",
            "work 'day;' = 1", "work 'day;' = 1", "work 'day;' = 1", "undo = 7", "told 3 = 7", "undo = 6", "told 3 = 6", "undo = 5",
            "undo = 4", "undo = 3",
            "told 4 = 3", "undo = 2", "undo = 1", "told 3 = 1", "undo = 0", "told 3 = 0", "told 4 = 0", "undo = -1");
    }

    private static void told() {
        of(9, "0 PANES, 1 ORDERS, 2 rains, 3 the DAY, 4 films on all CELLS, 5 on the RAG, 6 WASHED by now, 7 lines of the BOOK",
            "street '" + times(5, "pane 4 4 0 0;") + times(12, "rain 2 1;") + times(12, "order 0 0 0 1 1;") + "hold 30;' = 5", "told 0 = 5",
            "told 1 = 12",
            "told 2 = 12", "told 3 = 0", "pass 190 = 190", "pass 10 = 200", "told 4 = 2400", "told 6 = 80", "told 5 = 0",
            "work 'wipe 0 30;wipe 1 30;wipe 2 30;wipe 3 30;wipe 4 29;' = 5", "told 5 = 2384", "told 4 = 16", "work 'rinse;' = 1",
            "told 5 = 0",
            "told 7 = 0", "book '0 0 1;1 1 1;' = 2", "told 7 = 2", "street '' = 0", "told 0 = 0", "told 1 = 0", "told 2 = 0", "told 7 = 0");
        Script.run("9: two rains on one DAY are two", "street 'pane 1 1 0 0;rain 3 1;rain 3 1;' = 1", "told 2 = 2",
            "work 'day;day;day;' = 3",
            "told 6 = 2", "told 4 = 1", "work 'break 0;' = 1", "told 4 = 0", "told 5 = 0", "told 6 = 2");
        of(9, "IllegalArgumentException: another what (so below).",
            ONE, "told -1" + IAE, "told 9" + IAE, "told 2147483647" + IAE, "told -2147483648" + IAE, "pane 0 6" + IAE, "films 1 2" + IAE,
            "order 0 6" + NSE,
            "view 0 1 2" + IAE, "oldest 0 2" + IAE, "patch 0 2" + IAE, "look 0 2" + IAE, "cover 0 1 0 2" + IAE, "game 0 1 2" + IAE,
            "round 0 2" + IAE,
            "ahead 0 0 3" + IAE, "decade 0 0 1 3" + IAE, "span 0 1 0 1 3 0" + IAE, "pane 0 -1" + IAE, "films 1 -1" + IAE,
            "view 0 1 -1" + IAE,
            "oldest 0 -1" + IAE, "patch 0 -1" + IAE, "look 0 -1" + IAE, "cover 0 1 0 -1" + IAE, "game 0 1 -1" + IAE, "round 0 -1" + IAE,
            "ahead 0 0 -1" + IAE, "decade 0 0 1 -1" + IAE, "span 0 1 0 1 -1 0" + IAE, "status 2 = 28", "status 1 = 1");
    }

    private static void toldRefused() {
        of(9, "8 STEPS REFUSED by the latest WORK (0 ahead of any, behind undo(), restore()).",
            "told 8 = 0", ONE, "told 8 = 0", "work 'rinse;rinse;day;' = 1", "told 8 = 2", "image = 1", "told 8 = 2", "work 'day;' = 1",
            "told 8 = 0",
            "work 'rinse;' = 0", "told 8 = 1", "undo = 2", "told 8 = 0", "work 'wipe 0 9;wipe 0 9;wipe 0 9;' = 1", "told 8 = 2",
            "restore = 0",
            "told 8 = 0", "work 'rinse;' = 0", "told 8 = 1", "work 'bad' = -9", "told 8 = 1", "law 'bad' = -9", "told 8 = 1", "work '' = 0",
            "told 8 = 0",
            "work 'rinse;' = 0", ONE, "told 8 = 0", "undo = -1", "told 8 = 0");
    }

    private static void pane() {
        of(10, "Of a PANE: 0 W, 1 H, 2 X, 3 F, 4 films on it, 5 1 BROKEN, 0 not (4, 5: now).",
            "street 'pane 1 4 0 9;pane 4 1 60 0;pane 2 3 7 8;' = 3", "pane 0 0 = 1", "pane 0 1 = 4", "pane 0 2 = 0", "pane 0 3 = 9",
            "pane 1 0 = 4",
            "pane 1 1 = 1", "pane 1 2 = 60", "pane 1 3 = 0", "pane 2 0 = 2", "pane 2 1 = 3", "pane 2 2 = 7", "pane 2 3 = 8", "pane 2 4 = 0",
            "pane 2 5 = 0", "work 'day;day;cell 2 1 2 1;' = 3", "pane 0 4 = 8", "pane 1 4 = 8", "pane 2 4 = 11", "work 'break 2;' = 1",
            "pane 2 4 = 0",
            "pane 2 5 = 1", "pane 2 0 = 2", "pane 1 5 = 0", "undo = 1", "pane 2 4 = 11", "pane 2 5 = 0");
        of(10, "NoSuchElementException: no such PANE, ORDER (so below, ahead of others).",
            "pane 0 0" + NSE, "street 'pane 1 1 0 0;order 0 0 0 1 1;' = 1", "pane 1 0" + NSE, "pane -1 0" + NSE, "pane 2147483647 0" + NSE,
            "pane -2147483648 0" + NSE, "pane 1 9" + NSE, "shows 1 9 9" + NSE, "deep -1 9 9" + NSE, "film 1 9 9 9" + NSE,
            "have 1 999" + NSE,
            "showing 1 999" + NSE, "settles 1 9 9" + NSE, "order 1 9" + NSE, "order -1 9" + NSE, "needs 1" + NSE, "needs -1" + NSE,
            "cost 1 -1 999" + NSE,
            "view 1 -1 9" + NSE, "seams 1" + NSE, "sights 1" + NSE, "alike 0 1" + NSE, "alike 1 0" + NSE, "oldest 1 9" + NSE,
            "patch 1 9" + NSE,
            "tells 1" + NSE, "look 1 9" + NSE, "cover 1 -1 9 9" + NSE, "game 1 99 9" + NSE, "share 1 9 9 -1" + NSE, "ahead 1 99 9" + NSE,
            "status 0 = 0", "status 1 = 30", "status 2 = 0");
    }

    private static void cells() {
        of(11, "The DAY that a CELL shows (0: bare).",
            ROW, "shows 0 0 0 = 0", "law 'x' = 1", "work 'day;' = 1", "shows 0 0 0 = 0", "shows 0 1 0 = 1", "shows 0 3 0 = 1",
                "work 'day;cell 0 2 0 1;' = 2",
            "shows 0 1 0 = 2", "shows 0 2 0 = 1", "work 'cell 0 2 0 1;' = 1", "shows 0 2 0 = 0", "law '1' = 1", "pass 190 = 192",
            "pass 8 = 200",
            "shows 0 0 0 = 200", "work 'break 0;' = 1", "shows 0 0 0 = 0");
        of(11, "IndexOutOfBoundsException: no such CELL (so below, behind NoSuchElementException).",
            "street 'pane 2 3 0 0;pane 3 2 0 0;' = 2", "shows 0 1 2 = 0", "shows 0 2 0" + IOOBE, "shows 0 0 3" + IOOBE, "shows 1 2 1 = 0",
            "shows 1 3 0" + IOOBE, "shows 1 0 2" + IOOBE, "shows 0 -1 0" + IOOBE, "shows 0 0 -1" + IOOBE,
            "shows 0 2147483647 -2147483648" + IOOBE,
            "deep 0 2 0" + IOOBE, "deep 0 0 3" + IOOBE, "film 0 2 0 0" + IOOBE, "film 0 0 3 -1" + IOOBE, "settles 0 2 0" + IOOBE,
            "settles 0 0 3" + IOOBE, "share 0 2 0 1" + IOOBE, "share 0 0 3 1" + IOOBE, "share 0 2 0 -1" + IOOBE, "shows 2 0 3" + NSE,
            "settles 2 9 9" + NSE, "share 2 9 9 1" + NSE, "status 0 = 16", "status 1 = 3", "status 2 = 0");
        of(12, "How many films are on a CELL.",
            "street 'pane 2 1 0 0;hold 30;' = 1", "deep 0 0 0 = 0", "pass 30 = 30", "deep 0 0 0 = 30", "deep 0 1 0 = 30", "pass 1 = 31",
            "deep 0 0 0 = 30",
            "work 'cell 0 0 0 29;' = 1", "deep 0 0 0 = 1", "deep 0 1 0 = 30", "work 'cell 0 0 0 30;' = 1", "deep 0 0 0 = 0",
            "work 'break 0;' = 1",
            "deep 0 1 0 = 0");
        of(13, "The DAY of the film behind n outer ones (0: the outermost); 0: none.",
            "street 'pane 2 1 0 0;hold 3;' = 1", "film 0 0 0 0 = 0", "work 'day;' = 1", "film 0 0 0 0 = 1", "film 0 0 0 1 = 0",
            "work 'day;day;day;' = 3",
            "film 0 0 0 0 = 4", "film 0 0 0 1 = 3", "film 0 0 0 2 = 2", "film 0 0 0 3 = 0", "film 0 0 0 -1 = 0",
            "film 0 0 0 2147483647 = 0",
            "film 0 0 0 -2147483648 = 0", "film 0 0 0 30 = 0", "work 'cell 0 0 0 2;' = 1", "film 0 0 0 0 = 2", "film 0 0 0 1 = 0",
            "film 0 0 0 2 = 0",
            "film 0 1 0 2 = 2", "work 'break 0;' = 1", "film 0 1 0 0 = 0");
    }

    private static void films() {
        of(14, "How many films of a DAY (1 to 200) are on the RAG (what 0), on all CELLS (1).",
            "street 'pane 2 2 0 0;pane 3 1 0 0;rain 3 1;' = 2", "films 1 0 = 0", "films 1 1 = 0", "films 200 0 = 0", "films 200 1 = 0",
            "films 0 0" + IAE,
            "films 201 0" + IAE, "films 0 1" + IAE, "films 201 1" + IAE, "films -1 0" + IAE, "films 2147483647 1" + IAE,
            "films -2147483648 0" + IAE,
            "work 'day;day;' = 2", "films 1 1 = 7", "films 2 1 = 7", "films 2 0 = 0", "work 'wipe 0 1;' = 1", "films 2 0 = 4",
            "films 2 1 = 3",
            "films 1 0 = 0",
            // what rain takes, what is broken, and what is lost inside comes on no RAG
            "work 'day;' = 1", "told 6 = 7", "films 2 1 = 0", "films 2 0 = 4", "films 1 1 = 3", "films 1 0 = 0", "work 'break 1;' = 1",
            "films 1 1 = 0",
            "films 1 0 = 0", "films 3 1 = 4", "work 'rinse;' = 1", "films 2 0 = 0");
        Script.run("14: the 200th", "street '" + times(5, "pane 4 4 0 0;") + "hold 2;' = 5", "pass 200 = 200", "films 200 1 = 80",
            "films 199 1 = 80",
            "films 198 1 = 0", "work 'wipe 0 1;wipe 4 2;' = 2", "films 200 0 = 32", "films 200 1 = 48", "films 199 0 = 16",
            "films 199 1 = 64");
    }

    private static void haveAndShowing() {
        of(15, "CELLS of a PANE that have a film of a DAY (1 to 200), as bits.",
            "street 'pane 4 4 0 0;pane 2 1 0 0;' = 2", "have 0 1 = 0", "law '(x+1)/4+(y+1)/4' = 1", "work 'day;' = 1", "have 0 1 = 63624",
            "have 1 1 = 0", "law '1' = 1", "work 'day;' = 1", "have 0 1 = 63624", "have 0 2 = 65535", "have 1 2 = 3", "have 0 3 = 0",
            "have 0 200 = 0",
            "work 'cell 0 3 3 1;' = 1", "have 0 2 = 32767", "have 0 1 = 63624", "have 0 0" + IAE, "have 0 201" + IAE, "have 0 -1" + IAE,
            "have 0 2147483647" + IAE, "work 'break 0;' = 1", "have 0 2 = 0", "have 1 2 = 3");
        of(16, "CELLS of a PANE that show a DAY (0 to 200), as bits.",
            "street 'pane 4 4 0 0;pane 2 1 0 0;' = 2", "showing 0 0 = 65535", "showing 1 0 = 3", "showing 1 1 = 0", "showing 0 200 = 0",
            "law '(x+1)/4+(y+1)/4' = 1", "work 'day;' = 1", "showing 0 1 = 63624", "showing 0 0 = 1911", "law 'x/3' = 1", "work 'day;' = 1",
            "showing 0 2 = 34952", "showing 0 1 = 28672", "showing 0 0 = 1911", "showing 0 3 = 0", "showing 0 -1" + IAE,
            "showing 0 201" + IAE,
            "showing 0 -2147483648" + IAE, "work 'break 0;' = 1", "showing 0 0 = 65535", "showing 0 2 = 0", "showing 1 0 = 3");
        Script.run("15, 16: DAY 200", "street 'pane 2 2 0 0;' = 1", "pass 200 = 200", "have 0 200 = 51", "showing 0 200 = 51",
            "have 0 181 = 51",
            "have 0 180 = 0", "showing 0 199 = 0");
    }

    private static void settles() {
        of(17, "Whether a film would settle on a CELL on the next DAY, were no rain (by the LAW, as it is now; BROKEN, DAY 200: not).",
            "street 'pane 2 1 0 3;pane 1 1 0 0;rain 1 5;rain 3 1;' = 2", "settles 0 0 0 = true", "law 'rain' = 1", "settles 0 0 0 = false",
            "work 'day;' = 1", "deep 0 0 0 = 1", "law '1-rain' = 1", "work 'day;' = 1", "deep 0 0 0 = 2",
            // on DAY 3 rain takes a film first: not so here
            "law '2-deep' = 1", "settles 0 0 0 = false", "law 'seen-1' = 1", "settles 0 0 0 = true", "law '1-rain' = 1",
            "settles 0 0 0 = true",
            "law 'day-2' = 1", "settles 0 0 0 = true", "law 'day-3' = 1", "settles 0 0 0 = false", "law 'x*floor-2' = 1",
            "settles 0 0 0 = false",
            "settles 0 1 0 = true", "law 'pane' = 1", "settles 0 0 0 = false", "settles 1 0 0 = true", "told 3 = 2", "told 4 = 6",
            "work 'break 1;' = 1", "settles 1 0 0 = false", "law '999' = 1", "settles 1 0 0 = false", "settles 0 1 0 = true");
        Script.run("17: DAY 200", ONE, "pass 199 = 199", "settles 0 0 0 = true", "law 'day-199' = 1", "settles 0 0 0 = true",
            "work 'day;' = 1",
            "settles 0 0 0 = false", "law '999' = 1", "settles 0 0 0 = false", "settles 0 1 0" + IOOBE, "settles 1 0 0" + NSE);
        Script.run("17: a CELL that holds all it may lets one more settle", "street 'pane 1 1 0 0;hold 1;' = 1", "work 'day;' = 1",
            "settles 0 0 0 = true",
            "work 'day;' = 1", "deep 0 0 0 = 1", "shows 0 0 0 = 2");
    }

    private static void order() {
        of(18, "Of an ORDER: 0 P, 1 X, 2 Y, 3 D, 4 T, 5 0 open, 1 MET (on DAY T or behind it), 2 behind T and not MET, 3 GONE.",
            "street 'pane 1 1 0 0;pane 4 4 0 0;order 1 3 2 1 2;order 0 0 0 2 2;order 1 0 0 2 3;order 1 2 1 200 200;' = 2", "order 0 0 = 1",
            "order 0 1 = 3",
            "order 0 2 = 2", "order 0 3 = 1", "order 0 4 = 2", "order 0 5 = 0", "order 3 0 = 1", "order 3 1 = 2", "order 3 2 = 1",
            "order 3 3 = 200",
            "order 3 4 = 200", "order 0 6" + IAE, "order 0 -1" + IAE, "order 4 0" + NSE, "work 'day;' = 1", "order 0 5 = 0",
            "order 1 5 = 0",
            "work 'day;' = 1", "order 0 5 = 0", "order 1 5 = 1", "order 2 5 = 0", "work 'cell 1 3 2 1;cell 0 0 0 1;cell 1 0 0 1;' = 3",
            "order 0 5 = 1",
            "order 1 5 = 3", "order 2 5 = 3", "work 'day;' = 1", "order 0 5 = 1", "order 1 5 = 2", "order 2 5 = 3", "work 'day;' = 1",
            "order 2 5 = 2",
            "order 0 5 = 1", "order 3 5 = 0");
        Script.run("18: MET stays MET, whatever comes", "street 'pane 1 1 0 0;order 0 0 0 1 1;' = 1", "work 'day;day;wipe 0 9;' = 3",
            "order 0 5 = 1",
            "work 'break 0;day;' = 2", "order 0 5 = 1", "pass 100 = 103", "order 0 5 = 1");
        Script.run("18: shown on DAY T, but not as it ends", "street 'pane 1 1 0 0;order 0 0 0 2 2;' = 1", "work 'day;day;' = 2",
            "order 0 5 = 1",
            "work 'wipe 0 1;day;' = 2", "order 0 5 = 2", "lost = 0");
        Script.run("18: open again by undo", "street 'pane 1 1 0 0;order 0 0 0 1 3;' = 1", "work 'day;' = 1", "work 'wipe 0 1;' = 1",
            "order 0 5 = 3",
            "undo = 1", "order 0 5 = 0");
        Script.run("18: the twelfth", "street 'pane 1 1 0 0;" + times(11, "order 0 0 0 2 2;") + "order 0 0 0 1 1;' = 1",
            "work 'day;day;wipe 0 1;day;' = 4",
            "order 11 5 = 1", "order 10 5 = 2", "order 0 5 = 2");
    }

    private static void needsAndLost() {
        of(19, "How many films are to be wiped off its CELL so that an ORDER's DAY is shown now; NONE: there is none of it.",
            "street 'pane 2 1 0 0;order 0 0 0 1 30;order 0 1 0 30 30;order 0 0 0 31 40;hold 30;' = 1", "needs 0 = -1", "work 'day;' = 1",
            "needs 0 = 0",
            "pass 29 = 30", "needs 0 = 29", "needs 1 = 0", "needs 2 = -1", "work 'cell 0 0 0 29;' = 1", "needs 0 = 0", "undo = 2",
            "pass 1 = 31",
            "needs 0 = -1", "needs 1 = 1", "needs 2 = 0", "work 'cell 0 1 0 1;' = 1", "needs 1 = 0", "work 'cell 0 1 0 1;' = 1",
            "needs 1 = -1", "needs 3" + NSE,
            "needs -1" + NSE);
        of(20, "The first ORDER that is GONE, or was not MET; NONE.",
            "lost = -1", ONE, "lost = -1", "street 'pane 2 1 0 0;order 0 0 0 1 5;order 0 1 0 1 1;order 0 1 0 2 4;order 0 0 0 2 2;' = 1",
            "lost = -1",
            "work 'day;' = 1", "lost = -1", "work 'day;' = 1", "lost = -1", "work 'cell 0 1 0 1;' = 1", "lost = 2",
            "work 'cell 0 0 0 1;' = 1", "lost = 2",
            "work 'day;' = 1", "lost = 2", "order 3 5 = 2", "work 'cell 0 0 0 9;' = 1", "lost = 0", "undo = 5", "undo = 4", "undo = 3",
            "undo = 2",
            "lost = -1", "work 'day;' = 1", "lost = -1", "work 'day;day;day;' = 3", "lost = 0");
        Script.run("20: the last alone", "street 'pane 2 1 0 0;" + times(11, "order 0 0 0 1 1;") + "order 0 1 0 1 1;' = 1",
            "work 'day;cell 0 1 0 1;' = 2",
            "lost = 11", "work 'day;' = 1", "lost = 11");
    }

    private static void cost() {
        of(21, "COST; NONE: one of them has no film of that DAY (1 to 200), or no CELL is told.",
            FOUR, "cost 0 51 1 = -1", "work 'day;' = 1", "cost 0 51 1 = 0", "cost 0 0 1 = -1", "law 'x' = 1", "work 'day;' = 1",
            "cost 0 51 1 = 2",
            "cost 0 34 2 = 0", "cost 0 35 2 = -1", "cost 0 1 2 = -1", "cost 0 17 1 = 0", "cost 0 2 200 = -1", "cost 0 2 0" + IAE,
            "cost 0 2 201" + IAE,
            "cost 0 2 -1" + IAE, "cost 0 0 0" + IAE, "cost 0 0 201" + IAE, "cost 0 2 2147483647" + IAE, "work 'break 0;' = 1",
            "cost 0 2 1 = -1");
        Script.run("21: many", "street 'pane 4 4 0 0;hold 30;' = 1", "pass 200 = 200", "cost 0 65535 171 = 464", "cost 0 65535 170 = -1",
            "cost 0 65535 200 = 0",
            "cost 0 32768 171 = 29", "work 'cell 0 3 3 29;' = 1", "cost 0 65535 171 = 435", "cost 0 65535 172 = -1",
            "cost 0 32767 172 = 420");
        of(21, "IllegalArgumentException: bits of no CELLS (so below).",
            "street 'pane 2 1 0 0;pane 1 2 0 0;pane 4 4 0 0;' = 3", "cost 0 3 1 = -1", "cost 0 4 1" + IAE, "cost 0 16 1" + IAE,
            "cost 0 7 1" + IAE,
            "cost 1 17 1 = -1", "cost 1 2 1" + IAE, "cost 2 65535 1 = -1", "cost 2 65536 1" + IAE, "cost 2 -1 1" + IAE,
            "cost 2 -2147483648 1" + IAE,
            "view 0 4 0" + IAE, "view 1 2 0" + IAE, "view 2 65536 0" + IAE, "view 2 -1 0" + IAE, "cover 0 4 1 0" + IAE,
            "cover 1 2 1 0" + IAE,
            "cover 2 65536 1 0" + IAE, "cover 2 -1 1 0" + IAE, "status 2 = 15");
    }

    private static void view() {
        of(22, "VIEW: 0 the DAY, 1 its COST; NONE: there is none, or no CELL is told.",
            FOUR, "view 0 51 0 = -1", "view 0 51 1 = -1", "view 0 0 0 = -1", "work 'day;' = 1", "view 0 51 0 = 1", "view 0 51 1 = 0",
            "view 0 0 0 = -1",
            "view 0 0 1 = -1", "law 'x' = 1", "work 'day;' = 1", "view 0 51 0 = 1", "view 0 51 1 = 2", "view 0 34 0 = 2", "view 0 34 1 = 0",
            "view 0 1 0 = 1",
            "law 'y' = 1", "work 'day;' = 1", "view 0 51 0 = 1", "view 0 51 1 = 4", "view 0 48 0 = 3", "view 0 48 1 = 0", "view 0 50 0 = 1",
            "view 0 34 0 = 2",
            "view 0 34 1 = 1", "work 'cell 0 1 0 1;' = 1", "view 0 34 0 = 1", "view 0 34 1 = 2", "work 'cell 0 1 0 1;' = 1",
            "view 0 34 0 = -1",
            "view 0 34 1 = -1", "view 0 49 0 = 1", "view 0 0 2" + IAE, "view 0 4 0" + IAE);
        Script.run("22: the last CELL, the last DAY", BIG, "pass 199 = 199", "law 'x/3*(y/3)' = 1", "work 'day;' = 1",
            "view 0 32768 0 = 200", "view 0 65535 0 = 199",
            "view 0 65535 1 = 1", "view 0 32767 0 = 199", "view 0 32767 1 = 0", "work 'wipe 0 19;' = 1", "view 0 32768 0 = 181",
            "view 0 65535 0 = -1",
            "view 0 1 0 = 180");
    }

    private static void seamsAndSights() {
        of(23, "SEAMS of a PANE.",
            "street 'pane 4 4 0 0;pane 1 1 0 0;pane 1 4 0 0;pane 4 1 0 0;pane 2 3 0 0;' = 5", "seams 0 = 0", "law '(x+y)%2' = 1",
            "work 'day;' = 1",
            "seams 0 = 24", "seams 1 = 0", "seams 2 = 3", "seams 3 = 3", "seams 4 = 7", "work 'break 0;' = 1", "seams 0 = 0", "seams 2 = 3",
            "undo = 1",
            // the end of one row and the beginning of the next are no seam
            "work 'wipe 0 1;wipe 3 1;wipe 4 1;' = 3", "seams 0 = 0", "law 'x/3' = 1", "work 'day;' = 1", "seams 0 = 4", "seams 3 = 1",
            "seams 4 = 0",
            "law 'y/3' = 1", "work 'wipe 0 1;day;' = 2", "seams 0 = 4", "seams 5" + NSE, "seams -1" + NSE);
        of(24, "How many unlike DAYS a PANE shows (bare is none).",
            "street 'pane 4 4 0 0;pane 1 1 0 0;' = 2", "sights 0 = 0", "work 'day;' = 1", "sights 0 = 1", "law '4*y+x+2-day' = 1",
            "pass 15 = 16", "sights 0 = 16",
            "sights 1 = 1", "work 'cell 0 0 0 9;' = 1", "sights 0 = 15", "work 'cell 0 1 0 9;' = 1", "sights 0 = 14",
            "work 'wipe 0 30;' = 1", "sights 0 = 0",
            "undo = 4", "work 'break 0;' = 1", "sights 0 = 0", "sights 2" + NSE);
        Script.run("24: sixteen", BIG, "law '4*y+x+2-day' = 1", "pass 16 = 16", "sights 0 = 16", "seams 0 = 24", "oldest 0 1 = -1",
            "work 'cell 0 0 0 1;' = 1",
            "sights 0 = 15", "work 'cell 0 3 3 1;' = 1", "sights 0 = 14");
    }

    private static void alikeAndOldest() {
        of(25, "CELLS that two PANES have both and that show the same (bare ones, too), as bits.",
            "street 'pane 4 4 0 0;pane 2 3 0 1;pane 3 1 0 2;' = 3", "alike 0 0 = 65535", "alike 0 1 = 819", "alike 1 0 = 819",
            "alike 1 2 = 3", "alike 2 0 = 7",
            "law 'floor*x' = 1", "work 'day;' = 1", "alike 0 1 = 273", "alike 1 2 = 3", "alike 0 2 = 1", "alike 1 1 = 819",
            "work 'wipe 1 1;' = 1", "alike 0 1 = 819",
            "alike 1 2 = 1", "work 'break 2;' = 1", "alike 0 2 = 7", "alike 0 3" + NSE, "alike 3 0" + NSE, "alike -1 -1" + NSE,
            "status 1 = 3");
        Script.run("25: the same DAY outside, unlike ones behind it", "street 'pane 1 1 0 0;pane 1 1 0 1;' = 2", "law 'floor' = 1",
            "work 'day;' = 1", "alike 0 1 = 0",
            "law '1' = 1", "work 'day;' = 1", "alike 0 1 = 1");
        of(26,
            "The earliest DAY of which a film is on a PANE (what 0), the latest that is shown by none of its CELLS, but is on it (1); NONE.",
            
            
            
            
            FOUR, "oldest 0 0 = -1", "oldest 0 1 = -1", "work 'day;' = 1", "oldest 0 0 = 1", "oldest 0 1 = -1", "work 'day;day;' = 2",
            "oldest 0 0 = 1",
            "oldest 0 1 = 2", "work 'cell 0 0 0 1;' = 1", "oldest 0 1 = 1", "work 'cell 0 0 0 1;' = 1", "oldest 0 1 = 2",
            "work 'cell 0 1 0 1;' = 1",
            "oldest 0 1 = -1", "oldest 0 0 = 1", "work 'wipe 0 30;day;' = 2", "oldest 0 0 = 4", "oldest 0 1 = -1", "work 'day;' = 1",
            "oldest 0 0 = 4",
            "oldest 0 1 = 4", "undo = 6", "undo = 5", "work 'break 0;' = 1", "oldest 0 0 = -1", "oldest 0 1 = -1", "oldest 0 2" + IAE,
            "oldest 1 0" + NSE);
        Script.run("26: DAY 200", "street 'pane 2 1 0 0;hold 2;' = 1", "pass 200 = 200", "oldest 0 0 = 199", "oldest 0 1 = 199",
            "work 'cell 0 1 0 1;' = 1",
            "oldest 0 1 = -1", "work 'wipe 0 1;' = 1", "oldest 0 0 = 199", "oldest 0 1 = -1");
    }

    private static void thickAndPatch() {
        of(27, "The CELL with most films over all PANES (16 PANE, 4 Y and X; of these the first); NONE: all are bare.",
            "thick = -1", "street '" + times(5, "pane 4 4 0 0;") + "' = 5", "thick = -1", "work 'day;' = 1", "thick = 0",
            "law 'pane/4*(x/3)*(y/3)' = 1",
            "work 'day;' = 1", "thick = 79", "work 'cell 4 3 3 1;' = 1", "thick = 0", "work 'cell 0 0 0 1;' = 1", "thick = 1",
            "work 'wipe 0 1;' = 1", "thick = 16",
            "law 'pane%3/2*y/2*x/2' = 1", "work 'day;' = 1", "thick = 42", "work 'break 2;' = 1", "thick = 16",
            "work 'wipe 1 9;wipe 3 9;wipe 4 9;' = 3", "thick = -1");
        of(28, "PATCH of a PANE: the most CELLS that hang together (sideways, up) and show one DAY (bare is none): 0 how many, 1 the DAY",
            "street 'pane 4 4 0 0;pane 1 1 0 0;' = 2", "patch 0 0 = 0", "patch 0 1 = 0", "work 'day;' = 1", "patch 0 0 = 16",
            "patch 0 1 = 1", "patch 1 0 = 1",
            "patch 1 1 = 1",
            // corners alone do not hang together
            "law '(x+y)%2' = 1", "work 'day;' = 1", "patch 0 0 = 1", "patch 0 1 = 2", "work 'wipe 0 9;' = 1", "law '1-x/3*(y%2)' = 1",
            "work 'day;' = 1",
            "patch 0 0 = 14", "patch 0 1 = 3", "work 'wipe 0 1;' = 1", "patch 0 0 = 0", "patch 0 1 = 0", "patch 1 0 = 1", "patch 0 2" + IAE,
            "patch 2 0" + NSE);
        of(28, "of alike ones the latest (0: all are bare).",
            ROW, "work 'day;day;day;' = 3", "work 'cell 0 0 0 1;cell 0 1 0 1;' = 2", "patch 0 0 = 2", "patch 0 1 = 3",
                "work 'cell 0 2 0 2;cell 0 3 0 2;' = 2",
            "patch 0 0 = 2", "patch 0 1 = 2", "work 'cell 0 3 0 1;' = 1", "patch 0 0 = 2", "patch 0 1 = 2", "work 'cell 0 0 0 1;' = 1",
            "patch 0 0 = 1",
            "patch 0 1 = 2", "work 'wipe 0 9;' = 1", "patch 0 0 = 0", "patch 0 1 = 0");
        // rows 0 and 2 whole, joined by the last CELL of row 1, and the first CELL of row 3
        int snake = 0x000F | 0x0080 | 0x0F00 | 0x1000;
        Script.run("28: a snake", BIG, "law '1-y%2+y%2*((1-y/2)*(x/3)+y/2*(1-least[1,x]))' = 1", "work 'day;' = 1",
            "showing 0 1 = " + snake,
            "patch 0 0 = 10", "patch 0 1 = 1", "work 'cell 0 1 0 1;' = 1", "patch 0 0 = 8", "work 'cell 0 3 1 1;' = 1", "patch 0 0 = 5");
        // open upwards, downwards, to either side: two arms hang together only by what joins them
        Script.run("28: two arms", "street 'pane 3 2 0 0;' = 1", "work 'day;cell 0 1 1 1;' = 2", "patch 0 0 = 5",
            "work 'day;cell 0 1 0 2;' = 2", "patch 0 0 = 5",
            "patch 0 1 = 2", "street 'pane 2 3 0 0;' = 1", "work 'day;cell 0 1 1 1;' = 2", "patch 0 0 = 5", "work 'day;cell 0 0 1 2;' = 2",
            "patch 0 0 = 5", "patch 0 1 = 2");
    }

    private static void tellsAndLook() {
        of(29, "TELLS, as bits (N 0 the lowest).",
            "street 'pane 2 1 0 0;pane 1 1 0 0;hold 30;' = 2", "tells 0 = 2147483647", "book '0 0 0;' = 1", "tells 0 = 2147483647",
            "book '0 0 1;' = 1",
            "tells 0 = 0", "work 'day;' = 1", "tells 0 = 1", "tells 1 = 1", "pass 29 = 30", "tells 0 = 536870912", "book '0 0 30;' = 1",
            "tells 0 = 1",
            "book '0 0 0;' = 1", "tells 0 = 1073741824", "work 'cell 0 0 0 1;' = 1", "tells 0 = 1610612736", "book '0 0 29;1 0 30;' = 2",
            "tells 0 = 1",
            "tells 1 = 0", "book '0 0 0;1 0 1;' = 2", "tells 0 = 536870912", "book '0 0 1;1 0 0;' = 2", "tells 0 = 0", "book '' = 0",
            "tells 0 = 2147483647",
            "work 'break 0;' = 1", "book '0 0 0;1 0 0;' = 2", "tells 0 = 2147483647", "book '0 0 1;' = 1", "tells 0 = 0", "tells 2" + NSE,
            "tells -1" + NSE,
            "told 4 = 30");
        of(30, "LOOK: 0 the CELL (4 Y and X), 1 how many depths are left at the worst; NONE: there is no such CELL.",
            "street 'pane 4 4 0 0;pane 1 1 0 0;pane 4 2 0 0;' = 3", "look 0 0 = 0", "look 0 1 = 31", "law 'x/3*(y/3)' = 1",
            "work 'day;day;' = 2", "look 0 0 = 15",
            "look 0 1 = 29", "book '3 3 2;' = 1", "tells 0 = 1", "look 0 0 = 0", "look 0 1 = 1", "book '3 3 0;' = 1", "look 0 0 = 0",
            "look 0 1 = 29",
            "book '0 0 0;' = 1", "look 0 0 = 15", "look 1 0 = -1", "look 1 1 = -1", "book '3 3 1;0 0 1;' = 2", "tells 0 = 0",
            "look 0 0 = 1", "look 0 1 = 0",
            "book '0 0 0;1 0 0;2 0 0;3 0 0;0 1 0;1 1 0;2 1 0;3 1 0;' = 8", "look 2 0 = -1", "look 2 1 = -1", "look 0 0 = 15",
            "look 0 1 = 29", "look 0 2" + IAE,
            "look 3 0" + NSE);
    }

    private static void cover() {
        of(31, "COVER by R (0 to 6): 0 how many, 1 their CELLS as digits to the base 16 (the first the highest); NONE: not by 4.",
            "street 'pane 4 4 0 0;pane 2 1 0 0;pane 1 4 0 0;' = 3", "cover 0 0 6 0 = 0", "cover 0 0 6 1 = 0", "cover 0 61440 0 0 = 4",
            "cover 0 61440 0 1 = 52719",
            "cover 0 61441 0 0 = -1", "cover 0 61441 0 1 = -1", "cover 0 65535 0 0 = -1", "cover 0 32769 5 0 = 1", "cover 0 32769 5 1 = 1",
            "cover 0 32769 6 1 = 0",
            "cover 0 32769 2 0 = 2", "cover 0 32769 2 1 = 7", "cover 0 32769 3 0 = 1", "cover 0 32769 3 1 = 3", "cover 0 -1 0 0" + IAE,
            "cover 0 1 -1 0" + IAE,
            "cover 0 1 7 0" + IAE, "cover 0 0 7 0" + IAE, "cover 0 1 0 2" + IAE, "cover 1 3 0 0 = 2", "cover 1 3 0 1 = 1",
            "cover 1 3 1 0 = 1", "cover 1 3 1 1 = 0",
            "cover 2 4369 0 0 = 4", "cover 2 4369 0 1 = 1164", "cover 2 4369 1 0 = 2", "cover 2 4369 1 1 = 8", "cover 2 4369 2 0 = 1",
            "cover 2 4369 2 1 = 4",
            "cover 2 4369 3 1 = 0", "cover 1 2 6 1 = 0");
        // which films there are does not matter
        Script.run("31: films do not matter", BIG, "cover 0 65535 1 1 = 6030", "work 'day;cell 0 0 0 1;' = 2", "cover 0 65535 1 1 = 6030",
            "work 'break 0;' = 1",
            "cover 0 65535 1 1 = 6030", "cover 0 65535 1 0 = 4");
    }

    private static void game() {
        of(32, "GAME by k (1 to 30): whether who begins wins (what 0: 1, 0), CELLS (bits) off which he can begin so as to win (1).",
            "street 'pane 4 4 0 0;hold 30;' = 1", "game 0 1 0 = 0", "game 0 30 0 = 0", "game 0 1 1 = 0", "game 0 0 0" + IAE,
            "game 0 31 0" + IAE, "game 0 -1 1" + IAE,
            "game 0 2147483647 0" + IAE, "game 0 -2147483648 0" + IAE, "law 'x/3*(y/3)' = 1", "work 'day;' = 1", "game 0 1 0 = 1",
            "game 0 1 1 = 32768", "game 0 30 0 = 1",
            "game 0 30 1 = 32768", "pass 29 = 30", "game 0 30 0 = 1", "game 0 30 1 = 32768", "game 0 29 0 = 0", "game 0 29 1 = 0",
            "game 0 1 0 = 0", "game 0 1 1 = 0",
            "game 0 2 0 = 0", "game 0 3 0 = 1", "law '1' = 1", "work 'cell 0 3 3 30;day;' = 2", "game 0 1 0 = 0",
            "work 'cell 0 0 0 1;' = 1", "game 0 1 0 = 1",
            "game 0 1 1 = 65534", "work 'break 0;' = 1", "game 0 1 0 = 0");
        // 1, 2 and 3 films: only an even row lets the other win
        Script.run("32: heaps of 1, 2, 3", "street 'pane 3 1 0 0;' = 1", "law 'x+2-day' = 1", "work 'day;day;day;day;' = 4",
            "deep 0 0 0 = 1", "deep 0 1 0 = 2",
            "deep 0 2 0 = 3", "game 0 3 0 = 0", "game 0 3 1 = 0", "game 0 30 0 = 0", "game 0 2 0 = 1", "game 0 2 1 = 2", "game 0 1 0 = 0",
            "game 0 1 1 = 0",
            "work 'cell 0 2 0 1;' = 1", "game 0 3 0 = 1", "game 0 3 1 = 1", "game 0 1 1 = 7");
    }

    private static void round() {
        of(33, "ROUND: 0 minutes, 1 the PANES as digits to the base 10 (each and 1; the first the highest; 0: none).",
            "street 'pane 1 1 10 0;pane 1 1 20 0;pane 1 1 30 0;pane 1 1 40 0;pane 1 1 50 1;" + "order 4 0 0 1 1;order 3 0 0 1 1;order 2 0 0 1 1;order 1 0 0 1 1;order 0 0 0 1 1;' = 5",
            
            
            
            
            "round 0 0 = 0", "round 0 1 = 0", "round 1 0 = 53", "round 1 1 = 5", "round 16 0 = 10", "round 16 1 = 1", "round 31 0 = 53",
            "round 31 1 = 12345", "round 17 1 = 15",
            "round 6 0 = 40", "round 6 1 = 34", "round 14 1 = 234", "round 0 2" + IAE, "round 0 -1" + IAE,
            // PANES that hang at the beginning cost nothing, but are come to
            "street 'pane 1 1 0 0;pane 1 1 0 0;order 1 0 0 1 1;order 0 0 0 1 1;order 1 0 0 2 2;' = 2", "round 1 0 = 0", "round 1 1 = 2",
            "round 3 0 = 0", "round 3 1 = 12",
            "round 5 1 = 2", "round 7 1 = 12");
        of(33, "IllegalArgumentException: bits of no ORDERS (so below).",
            "round 1 0" + IAE, "round -1 0" + IAE, "street 'pane 1 1 3 0;" + times(12, "order 0 0 0 1 1;") + "' = 1", "round 4095 0 = 3",
            "round 4096 0" + IAE,
            "round 8191 0" + IAE, "round -1 0" + IAE, "round -2147483648 0" + IAE, "round 2147483647 0" + IAE, "by 4095 3 = true",
            "by 4096 3" + IAE, "by -1 3" + IAE,
            "by -2147483648 3" + IAE, "street 'pane 1 1 3 0;order 0 0 0 1 1;' = 1", "round 1 0 = 3", "round 2 0" + IAE, "round 3 0" + IAE,
            "by 2 3" + IAE, "status 2 = 13");
        // BROKEN PANES and ORDERS whose T is over are gone to all the same
        Script.run("33: whatever the DAY", "street 'pane 1 1 3 0;order 0 0 0 1 1;' = 1", "work 'day;day;break 0;' = 3", "round 1 0 = 3",
            "round 1 1 = 1");
    }

    private static void by() {
        of(34, "BY so many minutes (1 to 999)",
            "street 'pane 1 1 60 9;pane 1 1 0 0;pane 1 1 1 0;order 0 0 0 1 1;order 1 0 0 1 1;order 2 0 0 1 1;order 0 0 0 1 200;pace 9 9;' = 3",
            
            
            
            "by 0 1 = true",
            "by 0 0" + IAE, "by 0 1000" + IAE, "by 0 999 = true", "by 0 -1" + IAE, "by 0 2147483647" + IAE, "by 0 -2147483648" + IAE,
            "by 2 1 = true", "by 4 4 = false",
            "by 4 5 = true", "by 1 999 = true", "by 1 311 = true", "by 1 310 = false", "by 8 3 = false", "by 8 4 = true",
            "by 9 310 = false", "by 9 311 = true",
            "by 7 311 = true", "by 7 310 = false", "work 'day;' = 1", "by 1 620 = false", "by 1 621 = true", "by 2 1 = true",
            "by 4 8 = false", "by 4 9 = true");
        of(34, "an ORDER whose T is over: not.",
            "street 'pane 1 1 0 0;pane 1 1 0 0;order 0 0 0 1 1;order 1 0 0 1 2;order 0 0 0 1 3;' = 2", "by 7 1 = true", "work 'day;' = 1",
            "by 7 1 = true", "by 1 1 = true",
            "work 'day;' = 1", "by 1 999 = false", "by 2 1 = true", "by 3 999 = false", "by 4 1 = true", "by 5 999 = false",
            "by 6 1 = true", "by 0 1 = true",
            "work 'day;' = 1", "by 2 999 = false", "by 4 1 = true", "work 'day;' = 1", "by 4 999 = false", "by 0 1 = true");
        Script.run("34: to DAY 200", "street 'pane 1 1 1 0;order 0 0 0 200 200;' = 1", "pass 200 = 200", "by 1 1 = true", "work 'day;' = 0",
            "by 1 1 = true");
    }

    private static void share() {
        of(35, "What a CELL gets of N (0 to 9,999) pence by SHARES.",
            "street 'pane 4 4 0 0;hold 30;' = 1", "share 0 0 0 9999 = 0", "share 0 0 0 -1" + IAE, "share 0 0 0 10000" + IAE,
            "share 0 0 0 -2147483648" + IAE,
            "share 0 0 0 2147483647" + IAE, "share 0 0 0 0 = 0", "pass 30 = 30", "share 0 0 0 9999 = 639", "share 0 3 3 9999 = 624",
            "share 0 0 0 0 = 0",
            "share 0 0 0 15 = 15", "share 0 1 0 15 = 0", "share 0 0 0 16 = 1", "share 0 3 3 16 = 1", "work 'cell 0 0 0 1;' = 1",
            "share 0 0 0 9999 = 605",
            "share 0 1 0 9999 = 630", "share 0 2 0 9999 = 626", "share 0 0 0 479 = 29", "share 0 1 0 479 = 30", "share 0 1 0 478 = 44",
            "share 0 3 3 478 = 29",
            "share 0 0 0 478 = 28", "work 'break 0;' = 1", "share 0 1 0 9999 = 0", "share 0 4 0 -1" + IOOBE, "share 1 4 0 -1" + NSE);
        Script.run("35: a bare CELL gets nothing", "street 'pane 3 1 0 0;' = 1", "law 'x/2' = 1", "work 'day;' = 1", "share 0 0 0 9999 = 0",
            "share 0 1 0 9999 = 0",
            "share 0 2 0 9999 = 9999", "share 0 2 0 1 = 1", "law 'x%2' = 1", "work 'day;' = 1", "share 0 0 0 3 = 0", "share 0 1 0 3 = 2",
            "share 0 2 0 3 = 1");
    }

    private static void ahead() {
        of(36, "In so many DAYS (0 to 60), nothing being done (to DAY 200 at most): 0 films on a PANE, 1 SEAMS, 2 unlike DAYS it shows.",
            "street 'pane 2 2 0 0;pane 1 1 0 0;rain 3 2;hold 5;' = 2", "ahead 0 0 0 = 0", "ahead 0 1 0 = 4", "ahead 0 2 0 = 8",
            "ahead 0 3 0 = 4", "ahead 0 7 0 = 20",
            "ahead 0 8 0 = 20", "ahead 0 60 0 = 20", "ahead 0 61 0" + IAE, "ahead 0 -1 0" + IAE, "ahead 0 2147483647 0" + IAE,
            "ahead 1 60 0 = 5", "law 'x' = 1",
            "ahead 0 1 0 = 2", "ahead 0 1 1 = 2", "ahead 0 1 2 = 1", "ahead 0 0 1 = 0", "ahead 0 0 2 = 0", "work 'day;' = 1",
            "ahead 0 0 0 = 2", "ahead 0 0 1 = 2",
            "ahead 0 0 2 = 1", "law 'day%2-x' = 1", "ahead 0 1 2 = 1", "ahead 0 2 0 = 2", "ahead 0 2 1 = 2", "ahead 0 2 2 = 1",
            "ahead 0 3 2 = 1", "told 3 = 1",
            "work 'break 0;' = 1", "ahead 0 60 0 = 0", "ahead 0 60 1 = 0", "ahead 0 60 2 = 0", "ahead 1 2 0 = 1", "ahead 2 0 0" + NSE);
        Script.run("36: to DAY 200", "street 'pane 2 1 0 0;rain 199 9;rain 200 1;hold 30;' = 1", "law '(day-190)*(1-x)' = 1",
            "pass 190 = 190", "told 4 = 0",
            "ahead 0 1 0 = 1", "ahead 0 8 0 = 8", "ahead 0 9 0 = 1", "ahead 0 10 0 = 1", "ahead 0 11 0 = 1", "ahead 0 60 0 = 1",
            "ahead 0 60 1 = 1", "ahead 0 60 2 = 1",
            "pass 10 = 200", "ahead 0 0 0 = 1", "ahead 0 60 0 = 1", "film 0 0 0 0 = 200", "told 6 = 9");
    }

    private static void decade() {
        of(37, "A DECADE of so many DAYS (1 to 60), Q (0 to 16): 0 films on all CELLS, 1 PANES that are BROKEN, 2 WASHED more.",
            "street 'pane 2 1 0 0;pane 1 1 0 0;rain 2 1;rain 4 1;hold 9;' = 2", "decade 0 0 0 0" + IAE, "decade 0 0 61 0" + IAE,
            "decade 0 -1 1 0" + IAE,
            "decade 0 17 1 0" + IAE, "decade 0 0 1 3" + IAE, "decade 0 0 -2147483648 0" + IAE, "decade 0 2147483647 1 0" + IAE,
            "decade 0 0 1 0 = 3", "decade 0 0 60 0 = 27",
            "decade 0 0 60 1 = 0", "decade 0 0 1 2 = 0", "decade 0 0 2 2 = 3", "decade 0 0 3 2 = 3", "decade 0 0 4 2 = 6",
            "decade 0 0 60 2 = 6", "decade 0 16 1 0 = 0",
            "decade 0 16 1 1 = 2", "decade 0 16 60 2 = 0", "decade -2147483648 16 1 1 = 2", "decade 2147483647 0 60 1 = 0",
            // what was WASHED ahead of now is not more, and a PANE that is BROKEN already counts
            "work 'day;day;break 0;' = 3", "told 6 = 3", "decade 0 0 1 1 = 1", "decade 0 0 1 2 = 0", "decade 0 0 2 2 = 1",
            "decade 0 0 2 0 = 2", "decade 0 16 1 1 = 2",
            "told 3 = 2", "told 6 = 3", "pane 1 5 = 0", "told 4 = 1");
        Script.run("37: the LAW", "street 'pane 2 1 0 0;' = 1", "law 'x*(day%2)' = 1", "decade 3 0 5 0 = 3", "decade 3 0 60 0 = 20");
        Script.run("36 to 38: five PANES", "street '" + times(5, "pane 4 4 0 0;") + "rain 2 1;' = 5", "decade 1 0 3 0 = 160",
            "decade 1 0 3 2 = 80", "decade 1 16 3 1 = 5",
            "ahead 4 3 0 = 32", "ahead 4 60 0 = 320", "span 1 20 0 3 0 4 = 160", "span 1 20 0 3 1 4 = 160", "span 1 20 0 3 2 4 = 20",
            "work 'break 4;' = 1", "decade 1 0 3 0 = 128",
            "decade 1 0 3 1 = 1", "span 1 20 0 3 2 4 = 0", "span 1 20 0 3 2 3 = 20");
        Script.run("37: DAY 200", "street 'pane 1 1 0 0;rain 200 1;hold 30;' = 1", "pass 199 = 199", "decade 1 0 1 0 = 30",
            "decade 1 0 60 0 = 30", "decade 1 0 60 2 = 1",
            "work 'day;' = 1", "decade 1 0 60 0 = 30", "decade 1 0 60 2 = 0", "decade 1 16 1 1 = 1", "decade 1 16 1 0 = 0");
    }

    private static void span() {
        of(38,
            "Of so many SEEDS (1 to 20; seed, seed and 1, ..): 0 the fewest films on all CELLS, 1 the most, 2 by how many a PANE is whole.",
            "street 'pane 2 1 0 0;pane 1 1 0 0;hold 9;' = 2", "span 0 0 0 1 0 0" + IAE, "span 0 21 0 1 0 0" + IAE,
            "span 0 -1 0 1 0 0" + IAE, "span 0 2147483647 0 1 0 0" + IAE,
            "span 0 1 -1 1 0 0" + IAE, "span 0 1 17 1 0 0" + IAE, "span 0 1 0 0 0 0" + IAE, "span 0 1 0 61 0 0" + IAE,
            "span 0 1 0 1 3 0" + IAE, "span 0 1 0 1 -1 0" + IAE,
            "span 0 1 0 1 0 0 = 3", "span 0 20 0 60 1 1 = 27", "span 0 20 0 60 2 0 = 20", "span 0 20 16 60 2 0 = 0",
            "span 0 20 16 60 0 0 = 0", "span 0 20 16 60 1 0 = 0",
            "span 2147483647 20 0 60 2 1 = 20", "work 'break 0;' = 1", "span 0 20 0 60 2 0 = 0", "span 0 20 0 60 2 1 = 20",
            "span 0 7 0 60 2 1 = 7", "span 0 7 0 5 0 1 = 5",
            "span 0 7 0 5 1 0 = 5");
        for (int seed : new int[] {0, 5, -10, 2147483640, -2147483648}) {
            spanOfDecades(seed);
        }
        of(38, "(IllegalArgumentException: no such PANE, also for 0, 1.)",
            "span 0 1 0 1 0 0" + IAE, "street 'pane 1 1 0 0;pane 1 1 0 0;' = 2", "span 0 1 0 1 0 1 = 2", "span 0 1 0 1 0 2" + IAE,
            "span 0 1 0 1 1 2" + IAE,
            "span 0 1 0 1 2 2" + IAE, "span 0 1 0 1 0 -1" + IAE, "span 0 1 0 1 1 -1" + IAE, "span 0 1 0 1 2 -1" + IAE,
            "span 0 1 0 1 1 2147483647" + IAE, "status 1 = 0",
            "status 2 = 8");
    }

    /** A span is what the decades of its SEEDS are, one by one; a SEED behind the greatest wraps. */
    private static void spanOfDecades(int seed) {
        PaneDays days = new PaneDays();
        String text = "pane 1 1 0 0;";
        days.feed(Texts.four(text, 0), Texts.four(text, 4), Texts.four(text, 8), Texts.four(text, 12), 0);
        days.street(text.length());
        for (int many = 1; many <= 20; many += 19) {
            int fewest = Integer.MAX_VALUE;
            int most = 0;
            int whole = 0;
            for (int i = 0; i < many; i++) {
                int films = days.decade(seed + i, 1, 9, 0);
                fewest = Math.min(fewest, films);
                most = Math.max(most, films);
                whole += 1 - days.decade(seed + i, 1, 9, 1);
            }
            String call = "span " + seed + " " + many + " 1 9 ";
            Script.run("38: seed " + seed, ONE, call + "0 0 = " + fewest, call + "1 0 = " + most, call + "2 0 = " + whole);
        }
    }

    private static void image() {
        of(39, "An IMAGE of all but the TAPE, the latest FAULT, the LAW, the BOOK: how many there are",
            "street 'pane 2 1 0 0;rain 2 1;order 0 0 0 1 1;' = 1", "work 'day;' = 1", "work 'day;wipe 0 1;' = 2", "book '0 0 1;' = 1",
            "law 'x' = 1", "tape 'day;' = 20", "image = 1",
            "work 4 = 1", "work 'break 0;rinse;rinse;' = 2", "law 'y' = 1", "book '0 0 0;1 0 0;' = 2", "law 'bad' = -9",
            "tape '  day;' = 20", "restore = 0", "told 3 = 2",
            "told 4 = 0", "told 5 = 2", "films 2 0 = 2", "told 6 = 2", "order 0 5 = 1", "pane 0 5 = 0", "count 2 = 2", "fault = 0",
            "told 7 = 2", "settles 0 1 0 = false",
            "count 1 = 20", "undo = 1", "told 3 = 1", "told 4 = 2", "undo = 0", "told 3 = 0");
        of(39, "-1: there are 2.",
            ONE, "image = 1", "work 'day;' = 1", "image = 2", "work 'day;' = 1", "image = -1", "count 0 = 2", "image = -1", "restore = 1",
            "told 3 = 1", "image = 2", "image = -1",
            "restore = 1", "restore = 0", "told 3 = 0", "image = 1", "count 0 = 1", ONE, "image = 1", "image = 2", "image = -1",
            "street 'bad' = -9", "image = -1");
        Script.run("39: an IMAGE of a new object", "image = 1", "image = 2", "image = -1", "restore = 1", "restore = 0", "restore = -1");
    }

    private static void restore() {
        of(40, "All is as in the latest IMAGE, which is gone: how many are left",
            ONE, "work 'day;' = 1", "image = 1", "work 'day;' = 1", "image = 2", "work 'day;' = 1", "restore = 1", "told 3 = 2",
            "count 2 = 2", "count 0 = 1", "work 'wipe 0 9;' = 1",
            "restore = 0", "told 3 = 1", "told 4 = 1", "told 5 = 0", "count 2 = 1", "count 0 = 0", "undo = 0", "told 3 = 0",
            // what can be undone is as in the IMAGE, too: also what was undone since
            "work 'day;' = 1", "work 'day;day;' = 2", "image = 1", "undo = 1", "undo = 0", "undo = -1", "restore = 0", "told 3 = 3",
            "count 2 = 2", "undo = 1", "told 3 = 1",
            "undo = 0", "told 3 = 0", "undo = -1");
        of(40, "-1: there is none.",
            "restore = -1", ONE, "restore = -1", "work 'day;rinse;' = 1", "restore = -1", "told 3 = 1", "count 2 = 1", "image = 1",
            "restore = 0", "restore = -1", "told 3 = 1",
            "image = 1", ONE, "restore = -1", "told 0 = 1");
    }

    private static void statusAndCount() {
        of(41,
            "How many calls were refused: 0 IndexOutOfBoundsException, 1 NoSuchElementException, 2 IllegalArgumentException; NONE for others.",
            
            
            
            
            ONE, "status 0 = 0", "status 1 = 0", "status 2 = 0", "shows 0 1 0" + IOOBE, "share 0 1 0 -1" + IOOBE, "status 0 = 2",
            "shows 1 0 0" + NSE, "order 0 9" + NSE,
            "alike 1 1" + NSE, "status 1 = 3", "told 9" + IAE, "street 1" + IAE, "law 1" + IAE, "work 1" + IAE, "book 1" + IAE,
            "span 0 0 0 0 9 9" + IAE, "status 2 = 6",
            "status 0 = 2", "status 1 = 3", "status -1 = -1", "status 3 = -1", "status 2147483647 = -1", "status -2147483648 = -1",
            "status 2 = 6",
            // a FAULT, a REFUSED STEP, a full TAPE, -1 and -20 are no refused calls
            "law 'bad' = -9", "work 'rinse;' = 0", "undo = 0", "undo = -1", "restore = -1", "count 9 = -1", "status 0 = 2", "status 1 = 3",
            "status 2 = 6");
        of(41, "(No IMAGE keeps it.)",
            ONE, "told 9" + IAE, "image = 1", "told 9" + IAE, "shows 1 0 0" + NSE, "shows 0 9 9" + IOOBE, "restore = 0", "status 0 = 1",
            "status 1 = 1", "status 2 = 2", "work '' = 0",
            "told 9" + IAE, "undo = 0", "status 2 = 3", ONE, "status 0 = 1", "status 1 = 1", "status 2 = 3");
        of(42, "0 IMAGES, 1 bytes of the TAPE, 2 WORKS that can be undone; NONE for others.",
            "count 0 = 0", "count 1 = 0", "count 2 = 0", "count 3 = -1", "count -1 = -1", "count 2147483647 = -1", "count -2147483648 = -1",
            "status 2 = 0", ONE, "image = 1",
            "count 0 = 1", "image = 2", "image = -1", "count 0 = 2", "feed 0 0 0 0 0 = 20", "count 1 = 20", "law 5 = -9", "count 1 = 0",
            "work 'day;' = 1", "count 2 = 1",
            "work 'bad' = -9", "count 2 = 1", "work '' = 0", "count 2 = 2", "undo = 1", "count 2 = 1", "restore = 1", "count 2 = 0",
            "count 0 = 1",
            "tape '" + times(600, " ") + "' = 600", "feed 0 0 0 0 0 = -1", "count 1 = 600", "street 0 = 0", "count 1 = 0", "count 0 = 0");
    }

    /** The last CELL of the last PANE: no call looks behind it. */
    private static void fifthPane() {
        Script.run("10 to 38: the fifth PANE", "street '" + times(5, "pane 4 4 0 0;") + "order 4 3 3 1 9;order 4 0 0 2 9;' = 5",
            "work 'day;day;cell 4 3 3 1;' = 3",
            "pane 4 4 = 31", "pane 4 5 = 0", "shows 4 3 3 = 1", "deep 4 3 3 = 1", "film 4 3 3 0 = 1", "film 4 3 3 1 = 0",
            "have 4 2 = 32767", "have 4 1 = 65535",
            "have 3 2 = 65535", "showing 4 2 = 32767", "showing 4 1 = 32768", "showing 4 0 = 0", "settles 4 3 3 = true", "order 0 5 = 0",
            "needs 0 = 0", "needs 1 = 0",
            "cost 4 65535 1 = 15", "cost 4 65535 2 = -1", "view 4 65535 0 = 1", "view 4 65535 1 = 15", "view 4 32767 0 = 2", "seams 4 = 2",
            "seams 3 = 0", "sights 4 = 2",
            "alike 4 4 = 65535", "alike 3 4 = 32767", "alike 4 0 = 32767", "oldest 4 0 = 1", "oldest 4 1 = -1", "thick = 0",
            "patch 4 0 = 15", "patch 4 1 = 2",
            "book '3 3 1;0 0 2;' = 2", "tells 4 = 1", "tells 3 = 0", "look 4 0 = 1", "look 4 1 = 1", "cover 4 65535 6 1 = 0",
            "game 4 1 0 = 1", "game 4 1 1 = 65535",
            "round 3 0 = 0", "round 3 1 = 5", "by 3 1 = true", "share 4 3 3 31 = 1", "share 4 0 0 31 = 2", "ahead 4 1 0 = 47",
            "ahead 4 1 1 = 0", "ahead 4 1 2 = 1",
            "span 1 2 0 1 2 4 = 2", "work 'circle 4 3 3 6 9;break 4;' = 2", "pane 4 4 = 0", "showing 4 0 = 65535", "patch 4 0 = 0",
            "alike 4 4 = 65535", "seams 4 = 0");
    }

    /** Texts that end too early on a full TAPE: no byte is read behind it. */
    private static void fullTape() {
        for (String end : new String[] {"pane", "pane 1", "rain", "order", "pace 1", "hold", "hold 1", "h", "1", "-"}) {
            int n = 600 - end.length();
            int place = end.equals("h") || end.equals("1") || end.equals("-") ? n : 600;
            Script.run("3: 600 bytes that end in " + end, "street '" + times(n, " ") + end + "' = -9", "fault = " + place);
            String longer = times(n, " ") + end;
            boolean isLaw = end.equals("pane") || end.equals("rain") || end.equals("1");
            Script.run("4 to 6: " + end + " at the end of all", "tape '" + longer.substring(450) + "' = 160",
                "law 150 = " + (isLaw ? 1 : -9),
                "tape '" + longer.substring(400) + "' = 200",
                "work 200 = -9", "tape '" + longer.substring(500) + "' = 100", "book 100 = -9");
        }
    }
}
