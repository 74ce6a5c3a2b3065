/** Each promise of the document by ordinary inputs, the edges that it names, and wrong inputs. */
public final class PromisesTest {
    private static final String IAE = " ! IllegalArgument";
    private static final String NSE = " ! NoSuchElement";
    private static final String IOOBE = " ! IndexOutOfBounds";

    /** Three PANES: 2 by 2, 3 by 1, 4 by 4. */
    private static final String STREET =
        "street 'pane 2 2 10 1;pane 3 1 4 0;pane 4 4 60 9;rain 4 2;order 0 1 0 2 3;order 1 2 0 1 3;order 2 3 3 4 6;' = 3";

    private static String times(int n, String text) {
        return text.repeat(n);
    }

    public static void main(String[] args) {
        newObject();
        feeding();
        streets();
        laws();
        lawValues();
        works();
        workLimits();
        books();
        faultPlaces();
        undoing();
        told();
        panes();
        cells();
        filmsByDay();
        settling();
        orders();
        costs();
        seeing();
        patches();
        depths();
        covers();
        games();
        gamesPlayed();
        rounds();
        shares();
        aheads();
        decades();
        images();
        counts();
        edges();
        leftovers();
        System.out.println(Script.asked() + " answers asked, " + Script.wrong() + " not as due");
        if (Script.wrong() != 0) {
            System.exit(1);
        }
    }

    private static void newObject() {
        Script.run("1", "told 0 = 0", "told 1 = 0", "told 2 = 0", "told 3 = 0", "told 4 = 0", "told 5 = 0", "told 6 = 0",
            "told 7 = 0", "told 8 = 0", "pane 0 0" + NSE, "fault = -1", "undo = -1", "restore = -1", "lost = -1",
            "thick = -1", "count 0 = 0", "count 1 = 0", "count 2 = 0", "status 0 = 0", "status 1 = 1", "status 2 = 0",
            "round 0 0 = 0", "by 0 1 = true", "law '1' = 1", "work 'day;' = 1", "told 3 = 1", "book '' = 0");
    }

    private static void feeding() {
        Script.run("2", "feed 1885433445 540090418 540031744 0 0 = 20", "street 8 = -9", "fault = 8",
            // "pane 1 2 0;" has but three numbers
            "feed 1885433445 540090418 540031744 0 0 = 20", "street 11 = -9", "fault = 10", "count 1 = 0");
        String[] lines = new String[34];
        for (int i = 0; i < 30; i++) {
            lines[i] = "feed 1 2 3 4 5 = " + 20 * (i + 1);
        }
        lines[30] = "feed 1 2 3 4 5 = -1";
        lines[31] = "count 1 = 600";
        lines[32] = "street 600 = -9";
        lines[33] = "count 1 = 0";
        Script.run("2", lines);
        // of each number the highest byte first: "hold 7;" and a negative number (its highest byte is above 127)
        Script.run("2", "feed 1752132708 540490496 0 0 0 = 20", "street 7 = 0", "feed -1 0 0 0 0 = 20", "street 1 = -9",
            "fault = 0");
    }

    private static void streets() {
        Script.run("3", "street 0 = 0", "street 1" + IAE, "street -1" + IAE, "feed 538976288 0 0 0 0 = 20", "street 21" + IAE,
            "count 1 = 20", "street 4 = 0", "count 1 = 0", "status 2 = 3", STREET, "told 0 = 3", "told 1 = 3", "told 2 = 1");
        Script.run("3: stays on a FAULT", STREET, "work 'day;day;rinse;' = 2", "book '0 0 1;' = 1", "image = 1",
            "law 'x' = 1", "street 'pane 1 1 1 1;bad' = -9", "fault = 13", "count 1 = 0", "told 0 = 3", "told 3 = 2",
            "told 7 = 1", "told 8 = 1", "count 0 = 1", "count 2 = 1", "settles 0 0 0 = false", "settles 0 1 0 = true");
        Script.run("3: all is new", STREET, "work 'day;wipe 0 1;rinse;rinse;day;day;day;break 0;' = 7", "told 8 = 1", "told 6 = 46",
            "book '0 0 1;' = 1", "law '0' = 1", "image = 1", "told 9" + IAE,
            "street 'pane 2 2 10 1;' = 1", "told 3 = 0", "told 4 = 0", "told 5 = 0", "told 6 = 0", "told 7 = 0",
            "told 8 = 0", "told 1 = 0", "told 2 = 0", "count 0 = 0", "count 2 = 0", "undo = -1", "restore = -1", "pane 0 5 = 0",
            "settles 0 0 0 = true", "status 2 = 1", "films 1 0 = 0");
        Script.run("3: clauses", "street '" + times(60, "hold 1;") + "' = 0", "street '" + times(61, "hold 1;") + "' = -7",
            "fault = 420", "street '" + times(60, "hold 1;") + "bad' = -9", "fault = 420",
            "street '" + times(60, "hold 1;") + "  ' = 0", "street '" + times(5, "pane 1 1 1 1;") + "' = 5",
            "street '" + times(5, "pane 1 1 1 1;") + " pane 9 9;' = -7", "fault = 66",
            "street '" + times(12, "rain 1 1;") + "' = 0", "told 2 = 12",
            "street '" + times(12, "rain 1 1;") + "rain 0 0;' = -7", "fault = 108",
            "street 'pane 1 1 0 0;" + times(12, "order 0 0 0 1 1;") + "' = 1", "told 1 = 12",
            "street 'pane 1 1 0 0;" + times(12, "order 0 0 0 1 1;") + "order x' = -7", "fault = 205");
        Script.run("3: numbers", "street 'pane 4 4 60 9;rain 200 9;order 0 3 3 200 200;pace 9 9;hold 30;' = 1",
            "street 'pane 1 1 0 0;rain 1 1;order 0 0 0 1 1;pace 1 1;hold 1;' = 1",
            "street 'pane 0 1 1 1;' = -8", "fault = 5", "street 'pane 1 5 1 1;' = -8", "fault = 7",
            "street 'pane 1 1 61 0;' = -8", "fault = 9", "street 'pane 1 1 0 10;' = -8", "fault = 11",
            "street 'rain 201 1;' = -8", "fault = 5", "street 'rain 1 0;' = -8", "fault = 7",
            "street 'order 0 0 0 1 1;pane 1 1 0 0;' = -8", "fault = 6",
            "street 'pane 2 1 0 0;order 0 2 0 1 1;' = -8", "fault = 21", "street 'pane 2 1 0 0;order 0 1 1 1 1;' = -8", "fault = 23",
            "street 'pane 2 1 0 0;order 1 1 0 1 1;' = -8", "fault = 19",
            "street 'pane 2 1 0 0;order 0 1 0 0 1;' = -8", "fault = 25", "street 'pane 2 1 0 0;order 0 1 0 7 6;' = -8", "fault = 27",
            "street 'pane 2 1 0 0;order 0 1 0 7 201;' = -8", "fault = 27",
            "street 'pace 1 0;' = -8", "fault = 7", "street 'pace 10 1;' = -8", "fault = 5", "street 'hold 0;' = -8", "fault = 5",
            "street 'hold 4294967297;' = -8", "fault = 5", "street 'hold 99999999999999999999999999;' = -8", "fault = 5",
            "street 'hold 000000000000000000000007;' = 0", "street 'hold -1;' = -9", "fault = 5");
        Script.run("3: signs", "street 'pane1 1 1 1;' = 1", "street '  pane  1   1 1 1  ;  ' = 1", "street 'pane 1 1 1 1' = -9",
            "fault = 12", "street 'pane 1 1 1 1  ' = -9", "fault = 14", "street 'pane 1 1 1;' = -9", "fault = 10",
            "street 'pane 1 1 1 1 1;' = -9", "fault = 13", "street 'Pane 1 1 1 1;' = -9", "fault = 0", "street ';' = -9", "fault = 0",
            "street 'pa ne 1 1 1 1;' = -9", "fault = 0", "street 'pane 1 1 1 1;;' = -9", "fault = 13",
            "street 'pane 1,1 1 1;' = -9", "fault = 6", "street 'hold 1;\t' = -9", "fault = 7", "street 'hold\n1;' = -9", "fault = 4");
        Script.run("3: the last pace and hold count", "street 'pane 1 1 5 2;hold 9;pace 9 9;hold 2;order 0 0 0 1 1;pace 2 4;' = 1",
            "round 1 0 = 18", "work 'day;day;day;' = 3", "deep 0 0 0 = 2", "film 0 0 0 1 = 2",
            "street 'pane 1 1 5 2;order 0 0 0 1 1;' = 1", "round 1 0 = 11", "work 'again 20 [day;];day;' = 21", "deep 0 0 0 = 20",
            "film 0 0 0 19 = 2", "film 0 0 0 20 = 0");
    }

    private static void laws() {
        Script.run("4", STREET, "law 1" + IAE, "feed 0 0 0 0 0 = 20", "law 21" + IAE, "law -1" + IAE, "count 1 = 20", "law 3 = -9",
            "count 1 = 0", "fault = 0", "law '" + times(74, "1+") + "11' = 1", "law '" + times(75, "1+") + "1' ! IllegalArgument",
            "count 1 = 160", "status 2 = 4", "law 150 = -9", "fault = 150", "law 'x' = 1", "law 'y' = 1", "settles 0 0 0 = false",
            "settles 0 0 1 = true", "law '0-' = -9", "settles 0 0 1 = true", "settles 0 1 0 = false", "fault = 2");
        Script.run("4: faults", "law '1 1' = -9", "fault = 2", "law '+1' = -9", "fault = 0", "law '1+' = -9", "fault = 2",
            "law '1 +  ' = -9", "fault = 5", "law '(1' = -9", "fault = 2", "law '1)' = -9", "fault = 1", "law '()' = -9", "fault = 1",
            "law 'least(1,2)' = -9", "fault = 5", "law 'least[1,2,3]' = -9", "fault = 9", "law 'most[1,2' = -9", "fault = 8",
            "law 'most[,2]' = -9", "fault = 5", "law 'wipe' = -9", "fault = 0", "law '  ' = -9", "fault = 2", "law '-1' = -9", "fault = 0",
            "law '999' = 1", "law '  1000' = -8", "fault = 2", "law '1+0999' = 1", "law 'x1' = -9", "fault = 1", "law '1x' = -9",
            "fault = 1", "law 'xy' = -9", "fault = 0", "law 'x y' = -9", "fault = 2", "law 'Day' = -9", "fault = 0",
            "law 'day;' = -9", "fault = 3", "law 'least [ 1 , most[ 2,( 3 ) ] ] ' = 1");
        Script.run("4: seven open", "law '((((((1))))))' = 1", "law '(((((((1)))))))' = -7", "fault = 6",
            "law '((((((least[1,2]))))))' = -7", "fault = 6", "law '(((((( most' = -7", "fault = 7",
            "law 'least[(((((1))))),(((((2)))))]' = 1", "law 'least[(((((1))))),((((((2))))))]' = -7", "fault = 23",
            "law '((((((1))))))+((((((1))))))' = 1", "law 'most[1,most[1,most[1,most[1,most[1,most[1,2]]]]]]' = 1",
            "law 'most[1,most[1,most[1,most[1,most[1,most[1,most[1,2]]]]]]]' = -7", "fault = 42", "law '((((((x1' = -9", "fault = 7");
    }

    /** A LAW by what settles: on a CELL of PANE 1, X 2, Y 1, F 3, with two films, the outer one of DAY 2. */
    private static void value(String law, boolean above) {
        Script.run("4: " + law, "street 'pane 1 1 0 0;pane 3 2 0 3;rain 3 1;rain 5 2;rain 5 4;' = 2", "work 'day;day;' = 2",
            "law '" + law + "' = 1", "settles 1 2 1 = " + above);
    }

    private static void lawValues() {
        value("1", true);
        value("0", false);
        value("0-1", false);
        value("day-2", true);
        value("day-3", false);
        value("x-1", true);
        value("x-2", false);
        value("y", true);
        value("y-1", false);
        value("floor-2", true);
        value("floor-3", false);
        value("pane", true);
        value("pane-1", false);
        value("deep-1", true);
        value("deep-2", false);
        value("seen-1", true);
        value("seen-2", false);
        value("rain", false);
        value("1-rain", true);
        value("7/2-2", true);
        value("7/2-3", false);
        value("(0-7)/2+4", true);
        value("(0-7)/2+3", false);
        value("(0-7)%4+4", true);
        value("(0-7)%4+3", false);
        value("7%(0-4)-2", true);
        value("7%(0-4)-3", false);
        value("5/0+1", true);
        value("5/0", false);
        value("5%0+1", true);
        value("5%0", false);
        value("9-4-4", true);
        value("9-4-5", false);
        value("2+3*4-13", true);
        value("2+3*4-14", false);
        value("24/4/3-1", true);
        value("24/4/3-2", false);
        value("2*7%5-3", true);
        value("2*7%5-4", false);
        value("least[3,2]-1", true);
        value("least[3,2]-2", false);
        value("most[3,2]-2", true);
        value("most[3,2]-3", false);
        // 32 bits that wrap: 512 * 512 * 512 * 16 is 2 to the 31
        value("512*512*512*16", false);
        value("512*512*512*16-1", true);
        value("512*512*512*32", false);
        value("512*512*512*32+1", true);
        value("512*512*512*16/(0-1)", false);
        value("512*512*512*16%(0-1)+1", true);
        // rain of a DAY, all told together; it takes its films ahead of what settles
        Script.run("4: rain", "street 'pane 1 1 0 0;rain 3 1;rain 5 2;rain 5 4;hold 9;' = 1", "work 'day;day;' = 2",
            "law 'rain-5' = 1", "work 'day;day;' = 2", "deep 0 0 0 = 1", "shows 0 0 0 = 1", "work 'day;' = 1", "shows 0 0 0 = 5",
            "deep 0 0 0 = 1", "told 6 = 2");
        Script.run("4: deep, seen behind the rain", "street 'pane 1 1 0 0;rain 3 1;' = 1", "work 'day;day;' = 2", "law '2-deep' = 1",
            "settles 0 0 0 = false", "work 'day;' = 1", "shows 0 0 0 = 3", "law '2-seen' = 1", "work 'day;' = 1", "shows 0 0 0 = 3");
        Script.run("4: each CELL by its own", "street 'pane 2 2 0 0;pane 2 2 0 1;' = 2", "law '(x+y+pane+day)%2' = 1", "work 'day;' = 1",
            "showing 0 1 = 33", "showing 1 1 = 18", "law 'floor' = 1", "work 'day;' = 1", "showing 0 2 = 0", "showing 1 2 = 51");
    }

    private static void works() {
        Script.run("5", STREET, "work 1" + IAE, "work -1" + IAE, "feed 1 1 1 1 1 = 20", "work 21" + IAE, "count 1 = 20", "work 4 = -9",
            "count 1 = 0", "fault = 0", "count 2 = 0", "work '" + times(50, "day;") + "' = 50", "told 3 = 50",
            "work '" + times(50, "day;") + " ' ! IllegalArgument", "count 1 = 220", "work 0 = 0", "fault = -1",
            "count 1 = 0");
        Script.run("5: wipe, cell, circle", STREET, "work 'again 3 [day;];' = 3", "told 4 = 69", "work 'wipe 0 2;' = 1", "told 5 = 8",
            "films 3 0 = 4", "films 2 0 = 4", "films 1 0 = 0", "shows 0 1 1 = 1", "work 'wipe 0 30;wipe 0 1;' = 1", "told 8 = 1",
            "pane 0 4 = 0", "told 5 = 12", "work 'cell 1 1 0 1;cell 0 0 0 1;' = 1", "told 8 = 1", "shows 1 0 0 = 3", "shows 1 1 0 = 2",
            "work 'circle 2 1 1 1 1;' = 1", "showing 2 2 = 626", "work 'circle 2 1 1 0 9;circle 2 1 1 0 9;' = 1", "told 8 = 1",
            "shows 2 1 1 = 0", "showing 2 0 = 32", "work 'circle 2 0 0 6 1;' = 1", "showing 2 0 = 32", "showing 2 1 = 594");
        Script.run("5: day", "street 'pane 1 2 0 0;rain 2 1;rain 2 2;' = 1", "work 'day;day;' = 2", "told 6 = 2", "told 4 = 2",
            "shows 0 0 1 = 2", "work '" + times(2, "again 20 [day;day;day;day;];") + "' = 160", "told 3 = 162",
            "work 'again 20 [day;];again 20 [day;day;];' = 38", "told 8 = 22", "told 3 = 200", "work 'day;' = 0", "told 8 = 1",
            "settles 0 0 0 = false", "deep 0 0 0 = 20", "film 0 0 0 19 = 181");
        Script.run("5: rinse, break", STREET, "work 'rinse;break 1;break 1;day;wipe 1 1;rinse;wipe 0 1;rinse;rinse;' = 4", "told 8 = 5",
            "pane 1 5 = 1", "pane 1 4 = 0", "pane 0 4 = 0", "told 5 = 0", "films 1 0 = 0", "pane 2 4 = 16", "work 'break 2;' = 1",
            "told 4 = 0", "told 6 = 0", "told 5 = 0", "work 'day;' = 1", "told 4 = 4");
        Script.run("5: 8 WORKS", "street 'pane 1 1 0 0;' = 1", "work 'day;' = 1", "work '' = 0", "work '' = 0", "work '' = 0",
            "work '' = 0", "work '' = 0", "work '' = 0", "work 'rinse;' = 0", "count 2 = 8", "work 'bad' = -20", "fault = -1",
            "count 1 = 0", "told 8 = 1", "told 3 = 1", "law '!' = -9", "fault = 0", "work 'day;' = -20", "fault = -1", "told 3 = 1",
            "work 1" + IAE, "undo = 7", "work 'bad' = -9", "fault = 0", "count 2 = 7", "work 'day;' = 1", "count 2 = 8");
        Script.run("5: faults", STREET, "work 'wipe 3 1;' = -8", "fault = 5", "work 'wipe 0 31;' = -8", "fault = 7", "work 'wipe 0;' = -9",
            "fault = 6", "work 'cell 0 0 2 1;' = -8", "fault = 9", "work 'cell 1 3 0 1;' = -8", "fault = 7", "work 'cell 0 0 0 0;' = -8",
            "fault = 11", "work 'circle 0 0 0 7 1;' = -8", "fault = 13", "work 'circle 0 0 0 6 0;' = -8", "fault = 15",
            "work 'circle 0 0 0 1;' = -9", "fault = 14", "work 'break 3;' = -8", "fault = 6", "work 'day' = -9", "fault = 3",
            "work 'day 1;' = -9", "fault = 4", "work 'again 21 [];' = -8", "fault = 6", "work 'again 20 ];' = -9", "fault = 9",
            "work 'again 1 [day];' = -9", "fault = 12", "work 'again 1 [day;]' = -9", "fault = 14", "work 'again 1 [day;' = -9",
            "fault = 13", "work ']' = -9", "fault = 0", "work 'day;]' = -9", "fault = 4", "work 'rinse; again0[ ] ; ' = 0", "fault = -1",
            "work 'pane 1;' = -9", "fault = 0", "work '1;' = -9", "fault = 0", "work 'day;;' = -9", "fault = 4", "told 3 = 0");
        Script.run("5: no PANES", "work 'wipe 0 1;' = -8", "fault = 5", "work 'break 0;' = -8", "fault = 6", "work 'day;' = 1");
    }

    private static void workLimits() {
        Script.run("5: 200 begun", "street 'pane 1 1 0 0;' = 1", "work 'again 20 [again 20 [day;];];' = 189", "told 3 = 189",
            "told 8 = 0", "undo = 0", "work 'again 20 [again 9 [day;];];' = 179", "work 'rinse;day;' = 1", "undo = 1", "undo = 0",
            "work 'again 20 [rinse;rinse;rinse;rinse;rinse;rinse;rinse;rinse;rinse;];day;' = 1", "told 8 = 180", "undo = 0",
            "work 'again 20 [rinse;rinse;rinse;rinse;rinse;rinse;rinse;rinse;rinse;];again 17 [day;];day;' = 18", "undo = 0",
            "work 'again 20 [rinse;rinse;rinse;rinse;rinse;rinse;rinse;rinse;rinse;];again 18 [day;];day;' = 18", "undo = 0",
            "work 'again 20 [rinse;rinse;rinse;rinse;rinse;rinse;rinse;rinse;rinse;];again 20 [day;];day;' = 18", "undo = 0",
            "work 'again 20 [again 20 [];again 20 [];];day;' = 1", "undo = 0", "work 'again 0 [day;];day;' = 1", "told 3 = 1");
        Script.run("5: seven open", "work 'again 1 [again 1 [again 1 [again 1 [again 1 [again 1 [day;];];];];];];' = 1", "told 3 = 1",
            "work 'again 1 [again 1 [again 1 [again 1 [again 1 [again 1 [again bad' = -7", "fault = 54",
            "work 'again 1 [again 1 [again 1 [again 1 [again 1 [again 1 [bad' = -9", "fault = 54",
            "work 'again 2 [again 2 [day;];again 3 [again 2 [day;];];];' = 16");
    }

    private static void books() {
        Script.run("6", "book 1" + IAE, "book -1" + IAE, "book '" + times(8, "           ") + "            ' = 0",
            "book '" + times(101, " ") + "' ! IllegalArgument", "count 1 = 120", "book 100 = 0", "book '0 0 0;3 3 200;' = 2", "told 7 = 2",
            "book '4 0 0;' = -8", "fault = 0", "told 7 = 2", "book '0 4 0;' = -8", "fault = 2", "book '0 0 201;' = -8", "fault = 4",
            "book '0 0;' = -9", "fault = 3", "book '0 0 1' = -9", "fault = 5", "book 'x' = -9", "fault = 0", "book '1 0 1; 1 0 2;' = -8",
            "fault = 9", "book '1 0 1;0 1 2;1 1 2;' = 3", "told 7 = 3", "book '1 0 1;1  4 2;' = -8", "fault = 9");
        String eight = "0 0 1;1 0 1;2 0 1;3 0 1;0 1 1;1 1 1;2 1 1;3 1 1;";
        Script.run("6: lines", "book '" + eight + "' = 8", "book '" + eight + "0 2 1;' = -7", "fault = 48",
            "book '" + eight + " 0 0 1;' = -7", "fault = 49", "book '" + eight + "4 2 1;' = -8", "fault = 48",
            "book '" + eight + "; ' = -9", "fault = 48", "book '" + eight + "  ' = 8", "book '" + eight + "3' = -7", "fault = 48");
    }

    private static void faultPlaces() {
        Script.run("7", "fault = -1", "street 'x' = -9", "fault = 0", "law 1" + IAE, "fault = 0", "told 9" + IAE, "fault = 0", "image = 1",
            "law ' 1)' = -9", "restore = 0", "fault = 2", "undo = -1", "fault = 2", "law '1' = 1", "fault = -1", "book '9' = -8", "fault = 0",
            "work '' = 0", "fault = -1", "work 'day;  nay' = -9", "fault = 6", "street '' = 0", "fault = -1");
    }

    private static void undoing() {
        Script.run("8", STREET, "undo = -1", "work 'day;' = 1", "work 'day;wipe 0 1;break 1;rinse;rinse;' = 4", "told 8 = 1",
            "work 'again 3 [day;];' = 3", "told 6 = 40", "order 0 5 = 2", "undo = 2", "told 3 = 2", "told 6 = 0", "order 0 5 = 3",
            "told 8 = 0", "pane 1 5 = 1", "undo = 1", "told 3 = 1", "pane 1 5 = 0", "pane 1 4 = 3", "told 5 = 0", "told 4 = 23",
            "work 'wipe 0 1;' = 1", "told 5 = 4", "films 1 0 = 4", "undo = 1", "films 1 0 = 0", "films 1 1 = 23", "undo = 0",
            "told 3 = 0", "told 4 = 0", "undo = -1", "count 2 = 0");
        Script.run("8: the LAW and the BOOK stay", STREET, "work 'day;' = 1", "law '0' = 1", "book '0 0 1;' = 1", "undo = 0",
            "settles 0 0 0 = false", "told 7 = 1");
        Script.run("8: MET is undone too", "street 'pane 1 1 0 0;order 0 0 0 1 1;' = 1", "work 'day;' = 1", "order 0 5 = 1",
            "work 'day;' = 1", "order 0 5 = 1", "undo = 1", "work 'wipe 0 1;day;' = 2", "order 0 5 = 2");
    }

    private static void told() {
        Script.run("9", STREET, "told -1" + IAE, "told 9" + IAE, "work 'again 4 [day;];wipe 1 1;rinse;cell 0 0 0 1;rinse;rinse;' = 8",
            "told 0 = 3", "told 1 = 3", "told 2 = 1", "told 3 = 4", "told 4 = 42", "told 5 = 0", "told 6 = 46", "told 7 = 0", "told 8 = 1",
            "book '0 0 1;' = 1", "told 7 = 1", "work 'wipe 1 1;' = 1", "told 5 = 3", "told 8 = 0", "status 2 = 2");
    }

    private static void panes() {
        Script.run("10", STREET, "pane 0 0 = 2", "pane 0 1 = 2", "pane 0 2 = 10", "pane 0 3 = 1", "pane 1 0 = 3", "pane 1 1 = 1",
            "pane 1 2 = 4", "pane 1 3 = 0", "pane 2 2 = 60", "pane 2 3 = 9", "work 'day;break 1;' = 2", "pane 0 4 = 4", "pane 1 4 = 0",
            "pane 1 5 = 1", "pane 0 5 = 0", "pane 3 0" + NSE, "pane -1 9" + NSE, "pane 0 6" + IAE, "pane 0 -1" + IAE, "status 1 = 2",
            "status 2 = 2");
    }

    private static void cells() {
        Script.run("11 to 13", STREET, "work 'day;day;day;cell 1 2 0 2;' = 4", "shows 1 2 0 = 1", "shows 1 1 0 = 3", "deep 1 2 0 = 1",
            "deep 1 1 0 = 3", "film 1 1 0 0 = 3", "film 1 1 0 2 = 1", "film 1 1 0 3 = 0", "film 1 1 0 -1 = 0", "film 1 1 0 2147483647 = 0",
            "film 1 1 0 -2147483648 = 0", "shows 1 3 0" + IOOBE, "shows 1 0 1" + IOOBE, "deep 0 -1 0" + IOOBE, "film 0 0 -1 0" + IOOBE,
            "shows 3 9 9" + NSE, "deep -1 0 0" + NSE, "film 9 0 0 0" + NSE, "status 0 = 4", "status 1 = 3", "shows 2 3 3 = 3");
    }

    private static void filmsByDay() {
        Script.run("14 to 16", STREET, "work 'day;day;cell 0 1 1 1;wipe 1 2;' = 4", "films 1 0 = 3", "films 2 0 = 4", "films 1 1 = 20",
            "films 2 1 = 19", "films 200 1 = 0", "films 0 0" + IAE, "films 201 1" + IAE, "films 1 2" + IAE, "films 1 -1" + IAE,
            "have 0 1 = 51", "have 0 2 = 19", "have 1 1 = 0", "have 0 3 = 0", "have 2 2 = 65535", "have 0 0" + IAE, "have 0 201" + IAE,
            "have 3 0" + NSE, "showing 0 2 = 19", "showing 0 1 = 32", "showing 0 0 = 0", "showing 1 0 = 7", "showing 1 2 = 0",
            "showing 0 -1" + IAE, "showing 0 201" + IAE, "showing 5 -1" + NSE, "status 2 = 8", "status 1 = 2");
    }

    private static void settling() {
        Script.run("17", STREET, "settles 0 0 0 = true", "settles 0 2 0" + IOOBE, "settles 3 0 0" + NSE, "law 'day%2*(x+1)' = 1",
            "settles 0 0 0 = true", "work 'day;' = 1", "settles 0 0 0 = false", "work 'day;' = 1", "settles 0 0 0 = true",
            "law 'rain' = 1", "work 'day;' = 1", "settles 0 0 0 = false", "told 4 = 23", "work 'day;' = 1", "films 4 1 = 23",
            "law 'deep' = 1", "settles 0 0 0 = true", "work 'break 0;' = 1", "law '1' = 1", "settles 0 0 0 = false", "settles 1 0 0 = true");
    }

    private static void orders() {
        Script.run("18 to 20", STREET, "order 0 0 = 0", "order 0 1 = 1", "order 0 2 = 0", "order 0 3 = 2", "order 0 4 = 3", "order 2 0 = 2",
            "order 2 1 = 3", "order 2 2 = 3", "order 2 3 = 4", "order 2 4 = 6", "order 0 5 = 0", "order 3 0" + NSE, "order -1 7" + NSE,
            "order 0 6" + IAE, "order 0 -1" + IAE, "needs 3" + NSE, "needs 0 = -1", "lost = -1", "work 'day;day;' = 2", "needs 0 = 0",
            "needs 1 = 1", "needs 2 = -1", "order 0 5 = 0", "work 'day;' = 1", "order 0 5 = 0", "order 1 5 = 0", "needs 0 = 1",
            "needs 1 = 2", "lost = -1", "work 'cell 0 1 0 1;' = 1", "order 0 5 = 1", "work 'day;' = 1", "order 0 5 = 1", "order 1 5 = 2",
            "order 2 5 = 0", "lost = 1", "work 'wipe 2 1;' = 1", "order 2 5 = 3", "undo = 4", "work 'day;' = 1", "order 2 5 = 0", "needs 2 = 1",
            "work 'wipe 2 1;day;' = 2", "order 2 5 = 0", "work 'wipe 2 1;' = 1", "order 2 5 = 1", "lost = 1");
        Script.run("18: GONE ahead of T, behind T not MET", "street 'pane 1 1 0 0;order 0 0 0 2 4;order 0 0 0 1 200;' = 1", "work 'day;' = 1",
            "order 0 5 = 0", "work 'break 0;' = 1", "order 0 5 = 0", "order 1 5 = 3", "lost = 1", "work 'day;' = 1", "order 0 5 = 3", "lost = 0",
            "work 'day;day;' = 2", "order 0 5 = 3", "work 'day;' = 1", "order 0 5 = 2");
        Script.run("18: DAY 200", "street 'pane 1 1 0 0;order 0 0 0 200 200;order 0 0 0 199 200;' = 1",
            "work 'again 19 [day;day;day;day;day;day;day;day;day;day;];' = 190", "order 0 5 = 0",
            "work 'again 19 [day;];' = 10", "order 0 5 = 1", "order 1 5 = 0", "needs 1 = 1", "work 'wipe 0 1;' = 1", "order 1 5 = 1", "order 0 5 = 3");
        Script.run("18: MET as DAY T ends", "street 'pane 1 1 0 0;order 0 0 0 1 2;' = 1", "work 'day;' = 1", "order 0 5 = 0",
            "work 'day;wipe 0 1;' = 2", "order 0 5 = 1", "work 'wipe 0 1;' = 1", "order 0 5 = 3", "work 'day;' = 1", "order 0 5 = 2");
        Script.run("18: lost by hold", "street 'pane 1 1 0 0;hold 2;order 0 0 0 1 9;' = 1", "work 'day;day;' = 2", "needs 0 = 1", "order 0 5 = 0",
            "work 'day;' = 1", "needs 0 = -1", "order 0 5 = 3");
    }

    private static void costs() {
        Script.run("21, 22", STREET, "work 'day;day;day;cell 0 0 0 1;cell 0 1 0 2;' = 5", "cost 0 1 1 = 1", "cost 0 1 2 = 0", "cost 0 1 3 = -1",
            "cost 0 51 1 = 5", "cost 0 49 2 = 2", "cost 0 51 2 = -1", "cost 0 0 1 = -1", "cost 0 0 0" + IAE, "cost 0 1 201" + IAE,
            "cost 0 4 1" + IAE, "cost 0 -1 1" + IAE, "cost 0 65536 1" + IAE, "cost 3 4 0" + NSE, "view 0 51 0 = 1", "view 0 51 1 = 5",
            "view 0 49 0 = 2", "view 0 49 1 = 2", "view 0 48 0 = 3", "view 0 48 1 = 0", "view 0 0 0 = -1", "view 0 0 1 = -1", "view 0 0 2" + IAE,
            "view 0 4 0" + IAE, "view 3 4 0" + NSE, "view 0 1 -1" + IAE, "status 2 = 8");
        Script.run("22: alike", "street 'pane 2 1 0 0;' = 1", "work 'day;day;' = 2", "law 'x' = 1", "work 'day;day;' = 2",
            "view 0 3 0 = 2", "view 0 3 1 = 2", "work 'cell 0 0 0 2;' = 1", "view 0 3 0 = -1", "view 0 3 1 = -1", "cost 0 3 1 = -1");
        Script.run("22: the least COST is not the latest DAY's", "street 'pane 2 1 0 0;' = 1", "work 'day;day;day;' = 3", "law '1-x' = 1",
            "work 'day;cell 0 1 0 1;' = 2", "view 0 3 0 = 2", "view 0 3 1 = 2", "cost 0 3 1 = 4");
    }

    private static void seeing() {
        Script.run("23 to 27", STREET, "seams 0 = 0", "sights 0 = 0", "alike 0 1 = 3", "alike 0 2 = 51", "oldest 0 0 = -1", "oldest 0 1 = -1",
            "thick = -1", "work 'day;day;cell 0 0 0 1;cell 2 3 3 2;wipe 1 1;' = 5", "seams 0 = 2", "seams 1 = 0", "seams 2 = 2", "sights 0 = 2",
            "sights 1 = 1", "sights 2 = 1", "alike 0 1 = 1", "alike 1 0 = 1", "alike 0 2 = 50", "alike 2 2 = 65535", "alike 1 2 = 0",
            "oldest 0 0 = 1", "oldest 0 1 = -1", "oldest 2 1 = 1", "oldest 1 1 = -1", "thick = 1", "work 'wipe 0 1;' = 1", "thick = 32",
            "work 'day;circle 2 0 0 1 1;' = 2", "thick = 34", "oldest 2 1 = 1", "oldest 1 1 = 1", "oldest 1 0 = 1", "seams 2 = 4", "sights 2 = 2", "seams 3" + NSE,
            "seams -1" + NSE, "sights 3" + NSE, "alike 0 3" + NSE, "alike 3 0" + NSE, "oldest 3 7" + NSE, "oldest 0 2" + IAE, "oldest 0 -1" + IAE,
            "status 1 = 6", "status 2 = 2");
        Script.run("26", "street 'pane 1 1 0 0;' = 1", "work 'again 4 [day;];' = 4", "oldest 0 0 = 1", "oldest 0 1 = 3", "work 'break 0;' = 1",
            "oldest 0 0 = -1", "oldest 0 1 = -1", "thick = -1");
    }

    private static void patches() {
        Script.run("28", "street 'pane 3 3 0 0;pane 1 1 0 0;' = 2", "patch 0 0 = 0", "patch 0 1 = 0", "work 'day;day;day;' = 3", "patch 0 0 = 9",
            "patch 0 1 = 3", "work 'cell 0 1 0 1;cell 0 1 1 1;cell 0 1 2 1;' = 3", "patch 0 0 = 3", "patch 0 1 = 3", "work 'cell 0 2 2 3;' = 1",
            "patch 0 0 = 3", "patch 0 1 = 3", "work 'cell 0 0 0 3;' = 1", "patch 0 0 = 3", "patch 0 1 = 2", "work 'circle 0 0 0 6 3;' = 1", "patch 0 0 = 0", "patch 0 1 = 0",
            "patch 1 0 = 1", "patch 0 2" + IAE, "patch 0 -1" + IAE, "patch 2 2" + NSE);
        // a row's end and the next row's beginning do not hang together
        Script.run("28: rows", "street 'pane 4 2 0 0;' = 1", "work 'day;day;cell 0 3 0 1;cell 0 0 1 1;cell 0 1 1 2;cell 0 2 1 2;cell 0 3 1 2;' = 7",
            "patch 0 0 = 3", "work 'cell 0 0 0 2;cell 0 1 0 2;cell 0 2 0 2;' = 3", "patch 0 0 = 1", "patch 0 1 = 1");
    }

    private static void depths() {
        Script.run("29, 30", STREET, "tells 0 = 2147483647", "look 0 0 = 0", "look 0 1 = 31", "work 'day;day;day;cell 0 0 0 1;' = 4",
            "look 0 0 = 1", "look 0 1 = 28", "book '0 0 2;' = 1", "tells 0 = 1", "tells 1 = 2", "look 0 0 = 1", "look 0 1 = 1", "book '0 0 0;' = 1",
            "tells 0 = 2147483644", "tells 1 = 2147483640", "look 0 0 = 1", "look 0 1 = 28", "book '1 0 0;' = 1", "look 0 0 = 0", "look 0 1 = 28",
            "book '0 0 1;1 0 2;' = 2", "tells 0 = 2", "book '0 0 1;1 0 1;' = 2", "tells 0 = 0", "look 0 0 = 4", "look 0 1 = 0",
            "book '0 2 1;' = 1", "tells 0 = 0", "tells 1 = 0", "tells 2 = 4", "look 0 0 = 0", "look 0 1 = 0", "book '0 0 1;1 0 1;2 0 1;' = 3",
            "look 1 0 = -1", "look 1 1 = -1", "look 0 2" + IAE, "look 0 -1" + IAE, "look 3 2" + NSE, "tells 3" + NSE, "tells -1" + NSE);
        Script.run("29: 30 films", "street 'pane 2 1 0 0;hold 30;' = 1", "work 'again 20 [day;day;];' = 40", "book '0 0 11;' = 1", "tells 0 = 536870912",
            "book '0 0 0;' = 1", "tells 0 = 1073741824", "look 0 0 = 1", "look 0 1 = 1", "book '0 0 10;' = 1", "tells 0 = 0");
        Script.run("30: the next CELL", "street 'pane 3 1 0 0;' = 1", "law 'x' = 1", "work 'day;day;' = 2", "law 'x/2' = 1", "work 'day;' = 1",
            "book '0 0 0;' = 1", "tells 0 = 2147483647", "look 0 0 = 2", "look 0 1 = 28", "book '0 0 0;2 0 0;' = 2", "look 0 0 = 1", "look 0 1 = 28");
    }

    private static void covers() {
        Script.run("31", STREET, "cover 2 0 0 0 = 0", "cover 2 0 0 1 = 0", "cover 2 32769 0 0 = 2", "cover 2 32769 0 1 = 15", "cover 2 31 0 0 = -1",
            "cover 2 31 0 1 = -1", "cover 2 15 0 0 = 4", "cover 2 15 0 1 = 291", "cover 2 65535 1 0 = 4", "cover 2 65535 1 1 = 6030", "cover 2 65535 6 0 = 1",
            "cover 2 65535 6 1 = 0", "cover 2 65535 3 0 = 2", "cover 2 65535 4 0 = 1", "cover 2 65535 4 1 = 5", "cover 0 33 1 0 = 1", "cover 0 33 1 1 = 1", "cover 0 51 1 1 = 1",
            "cover 1 7 1 1 = 1", "cover 0 51 0 1 = 325", "cover 0 51 7 0" + IAE, "cover 0 51 -1 0" + IAE, "cover 0 4 1 0" + IAE, "cover 0 51 1 2" + IAE,
            "cover 0 -1 1 0" + IAE, "cover 3 4 9 9" + NSE, "status 2 = 5");
    }

    private static void games() {
        Script.run("32", STREET, "game 0 1 0 = 0", "game 0 1 1 = 0", "work 'day;day;day;cell 1 0 0 1;cell 1 1 0 2;' = 5", "game 1 1 0 = 0", "game 1 1 1 = 0",
            "game 1 3 0 = 0", "game 1 2 0 = 1", "game 1 2 1 = 1", "work 'cell 1 2 0 2;' = 1", "game 1 30 0 = 1", "game 1 30 1 = 1", "game 0 0 0" + IAE,
            "game 0 31 0" + IAE, "game 0 1 2" + IAE, "game 0 1 -1" + IAE, "game 3 0 0" + NSE, "status 1 = 1");
    }

    /** Three CELLS of 0 to 3 films: who wins is found by playing on to the end. */
    private static void gamesPlayed() {
        for (int films = 0; films < 64; films++) {
            int[] row = {films % 4, films / 4 % 4, films / 16};
            StringBuilder wiped = new StringBuilder("day;day;day;");
            for (int i = 0; i < 3; i++) {
                wiped.append(row[i] < 3 ? "cell 0 " + i + " 0 " + (3 - row[i]) + ";" : "");
            }
            int steps = wiped.toString().split(";").length;
            for (int k = 1; k <= 4; k++) {
                int bits = winningFirst(row, k);
                Script.run("32: played", "street 'pane 3 1 0 0;' = 1", "work '" + wiped + "' = " + steps, "game 0 " + k + " 1 = " + bits,
                    "game 0 " + k + " 0 = " + (bits != 0 ? 1 : 0));
            }
        }
    }

    private static int winningFirst(int[] row, int k) {
        int bits = 0;
        for (int i = 0; i < row.length; i++) {
            for (int off = 1; off <= k && off <= row[i]; off++) {
                int[] next = row.clone();
                next[i] -= off;
                bits |= winningFirst(next, k) == 0 ? 1 << i : 0;
            }
        }
        return bits;
    }

    private static void rounds() {
        String street = "street 'pane 1 1 10 0;pane 1 1 20 2;pane 1 1 0 0;pane 1 1 10 0;order 0 0 0 3 5;order 1 0 0 3 9;order 2 0 0 3 3;order 3 0 0 3 5;order 0 0 0 3 4;pace 2 5;' = 4";
        Script.run("33", street, "round 0 0 = 0", "round 0 1 = 0", "round 1 0 = 20", "round 1 1 = 1", "round 2 0 = 50", "round 3 0 = 50", "round 3 1 = 12",
            "round 15 0 = 50", "round 15 1 = 3142", "round 4 0 = 0", "round 4 1 = 3", "round 17 1 = 1", "round 9 1 = 14", "round 32 0" + IAE, "round -1 0" + IAE,
            "round 0 2" + IAE, "round 0 -1" + IAE, "round 5 1 = 31");
        Script.run("33: five", "street 'pane 1 1 50 0;pane 1 1 40 0;pane 1 1 30 0;pane 1 1 20 0;pane 1 1 10 0;order 0 0 0 1 1;order 1 0 0 1 1;order 2 0 0 1 1;order 3 0 0 1 1;order 4 0 0 1 1;' = 5",
            "round 31 0 = 50", "round 31 1 = 54321", "by 31 24 = false", "by 31 25 = true", "work 'day;' = 1", "by 31 50 = true",
            "by 31 49 = false");
        Script.run("34", street, "by 0 1 = true", "by 0 0" + IAE, "by 0 1000" + IAE, "by 0 999 = true", "by 32 5" + IAE, "by -1 5" + IAE, "by 1 3 = false", "by 1 4 = true",
            "by 17 3 = false", "by 17 4 = true", "by 2 4 = false", "by 2 5 = true", "by 4 1 = true", "by 7 4 = false", "by 7 5 = true", "work 'day;day;day;day;' = 4",
            "by 4 999 = false", "by 1 10 = true", "by 1 9 = false", "by 16 19 = false", "by 16 20 = true", "by 5 999 = false", "work 'day;' = 1",
            "by 16 999 = false", "by 1 20 = true");
        // the shortest row comes too late to PANE 1, another row does not
        Script.run("34: another row", "street 'pane 1 1 10 0;pane 1 1 11 0;order 0 0 0 1 5;order 1 0 0 1 1;' = 2", "work 'day;' = 1", "round 3 1 = 12", "by 3 11 = true",
            "by 3 10 = false");
    }

    private static void shares() {
        Script.run("35", STREET, "share 0 0 0 100 = 0", "work 'day;day;day;cell 0 0 0 1;cell 0 1 0 3;' = 5", "share 0 0 0 100 = 25", "share 0 1 0 100 = 0",
            "share 0 0 1 100 = 38", "share 0 1 1 100 = 37", "share 0 0 1 0 = 0", "share 0 0 1 9999 = 3751", "share 0 1 1 9999 = 3749", "share 0 0 0 9999 = 2499",
            "share 0 0 1 1 = 1", "share 0 1 1 1 = 0", "share 0 0 0 10000" + IAE, "share 0 0 0 -1" + IAE, "share 0 2 0 -1" + IOOBE, "share 3 9 9 -1" + NSE,
            "status 0 = 1", "status 1 = 1", "status 2 = 2");
    }

    private static void aheads() {
        Script.run("36", "street 'pane 2 1 0 0;pane 1 1 0 0;rain 3 2;hold 3;' = 2", "law 'most[1-x,day%2]' = 1", "ahead 0 0 0 = 0", "ahead 0 1 0 = 2",
            "ahead 0 2 0 = 3", "ahead 0 2 1 = 1", "ahead 0 2 2 = 2", "ahead 0 3 0 = 2", "ahead 0 3 1 = 0", "ahead 0 3 2 = 1", "ahead 0 60 0 = 6", "ahead 1 60 0 = 3",
            "told 3 = 0", "told 4 = 0", "told 6 = 0", "ahead 0 61 0" + IAE, "ahead 0 -1 0" + IAE, "ahead 0 1 3" + IAE, "ahead 0 1 -1" + IAE, "ahead 2 61 0" + NSE,
            "work 'break 0;' = 1", "ahead 0 9 0 = 0", "ahead 0 9 1 = 0", "ahead 0 9 2 = 0", "ahead 1 2 0 = 2");
        Script.run("36: to DAY 200", "street 'pane 1 1 0 0;hold 30;rain 200 1;' = 1", "law 'day/200' = 1",
            "work 'again 19 [day;day;day;day;day;day;day;day;day;day;];' = 190", "ahead 0 9 0 = 0", "ahead 0 10 0 = 1", "ahead 0 60 0 = 1");
    }

    private static void decades() {
        Script.run("37", "street 'pane 1 1 0 0;pane 2 1 0 0;rain 2 1;hold 9;' = 2", "decade 0 0 3 0 = 6", "decade 0 0 3 1 = 0", "decade 0 0 3 2 = 3",
            "decade 0 16 1 0 = 0", "decade 0 16 1 1 = 2", "decade 0 16 60 2 = 0", "told 3 = 0", "told 4 = 0", "told 6 = 0", "pane 0 5 = 0", "decade 0 17 1 0" + IAE,
            "decade 0 -1 1 0" + IAE, "decade 0 1 0 0" + IAE, "decade 0 1 61 0" + IAE, "decade 0 1 1 3" + IAE, "decade 0 1 1 -1" + IAE, "decade 0 0 60 0 = 27",
            "work 'day;break 0;' = 2", "decade 0 0 2 0 = 4", "decade 0 0 2 1 = 1", "decade 0 0 2 2 = 2");
        Script.run("38", "street 'pane 1 1 0 0;pane 2 1 0 0;rain 2 1;hold 9;' = 2", "span 0 1 0 3 0 0 = 6", "span 0 20 0 3 1 1 = 6", "span 0 20 0 3 2 1 = 20", "span 5 20 16 1 2 0 = 0",
            "span 5 3 16 1 0 0 = 0", "span 0 0 1 1 0 0" + IAE, "span 0 21 1 1 0 0" + IAE, "span 0 1 17 1 0 0" + IAE, "span 0 1 1 61 0 0" + IAE, "span 0 1 1 1 3 0" + IAE,
            "span 0 1 1 1 0 2" + IAE, "span 0 1 1 1 1 -1" + IAE, "span 0 1 1 1 2 2" + IAE, "status 1 = 0", "status 2 = 8");
        drawsByHand();
    }

    /** The DRAWS worked out here once more, with 64 bits, and one PANE of one CELL: whole or BROKEN. */
    private static void drawsByHand() {
        for (int seed : new int[] {0, 1, 5, 77, 1234, -1, Integer.MAX_VALUE, Integer.MIN_VALUE}) {
            for (int q = 0; q <= 16; q++) {
                long s = seed & 0xFFFFFFFFL;
                boolean whole = true;
                for (int d = 0; d < 5; d++) {
                    s = (s * 1103515245L + 12345L) & 0xFFFFFFFFL;
                    whole &= (s >> 16 & 32767) % 16 >= q;
                }
                Script.run("37: seed " + seed, "street 'pane 1 1 0 0;' = 1", "decade " + seed + " " + q + " 5 0 = " + (whole ? 5 : 0),
                    "decade " + seed + " " + q + " 5 1 = " + (whole ? 0 : 1), "span " + seed + " 1 " + q + " 5 2 0 = " + (whole ? 1 : 0));
            }
        }
    }

    private static void images() {
        Script.run("39, 40", STREET, "restore = -1", "image = 1", "work 'day;wipe 0 1;rinse;rinse;' = 3", "told 8 = 1", "restore = 0", "told 3 = 0", "told 8 = 0", "count 2 = 0",
            "work 'day;' = 1", "work 'day;rinse;' = 1", "image = 1", "work 'break 0;day;day;day;wipe 1 1;' = 5", "image = 2", "image = -1", "count 0 = 2", "undo = 2", "undo = 1", "undo = 0",
            "told 3 = 0", "work 'day;day;day;' = 3", "law '0' = 1", "book '0 0 1;' = 1", "feed 0 0 0 0 0 = 20", "restore = 1", "told 3 = 5", "pane 0 5 = 1", "told 5 = 3", "told 6 = 38",
            "order 0 5 = 2", "count 2 = 3", "count 1 = 20", "told 7 = 1", "settles 1 0 0 = false", "undo = 2", "told 3 = 2", "pane 0 5 = 0", "told 5 = 0", "undo = 1", "told 3 = 1", "restore = 0",
            "told 3 = 2", "count 2 = 2", "undo = 1", "told 3 = 1", "told 4 = 23", "undo = 0", "told 4 = 0", "restore = -1", "status 2 = 0");
        Script.run("40: none", STREET, "work 'rinse;' = 0", "told 8 = 1", "restore = -1", "told 8 = 1", "image = 1", "told 8 = 1", "restore = 0", "told 8 = 0");
    }

    private static void counts() {
        Script.run("41, 42", STREET, "status -1 = -1", "status 3 = -1", "count -1 = -1", "count 3 = -1", "image = 1", "shows 9 9 9" + NSE, "shows 0 9 9" + IOOBE, "told 99" + IAE, "told 98" + IAE,
            "status 0 = 1", "status 1 = 1", "status 2 = 2", "restore = 0", "status 2 = 2", "street '' = 0", "status 0 = 1", "status 1 = 1", "status 2 = 2", "street 'x' = -9", "status 2 = 2",
            "feed 1 1 1 1 1 = 20", "count 1 = 20", "image = 1", "count 0 = 1", "count 2 = 0", "street 0 = 0", "work '' = 0", "count 2 = 1", "count 1 = 0", "count 0 = 0");
    }

    private static void edges() {
        Script.run("DAY 200", "street 'pane 2 1 0 0;' = 1", "work 'again 19 [day;day;day;day;day;day;day;day;day;day;];' = 190",
            "work 'again 10 [day;];' = 10", "have 0 200 = 3", "showing 0 200 = 3", "films 200 1 = 2", "films 200 0 = 0", "cost 0 3 200 = 0",
            "view 0 3 0 = 200", "view 0 3 1 = 0", "sights 0 = 1", "oldest 0 0 = 181", "oldest 0 1 = 199", "work 'wipe 0 1;' = 1",
            "films 200 0 = 2", "work 'wipe 0 30;' = 1", "oldest 0 0 = -1", "thick = -1", "decade 0 0 5 0 = 0", "ahead 0 5 0 = 0");
        Script.run("oldest and newest on DAY 200 alone", "street 'pane 2 1 0 0;' = 1", "law 'day/200' = 1",
            "work 'again 19 [day;day;day;day;day;day;day;day;day;day;];' = 190", "work 'again 10 [day;];' = 10", "oldest 0 0 = 200",
            "oldest 0 1 = -1", "sights 0 = 1", "view 0 1 0 = 200", "thick = 0");
        Script.run("a DECADE beyond DAY 200 goes on drawing", "street 'pane 1 1 0 0;' = 1",
            "work 'again 19 [day;day;day;day;day;day;day;day;day;day;];' = 190", "work 'again 9 [day;];' = 9", "decade 5 0 60 0 = 20",
            "decade 5 16 60 1 = 1", "span 5 20 1 60 2 0 = " + wholeBy(5, 20, 1, 60));
        Script.run("32: more CELLS than one", "street 'pane 3 1 0 0;' = 1", "work 'day;day;' = 2", "game 0 2 0 = 1", "game 0 2 1 = 7",
            "game 0 1 0 = 0", "game 0 1 1 = 0", "work 'cell 0 0 0 1;' = 1", "game 0 1 0 = 1", "game 0 1 1 = 7", "game 0 2 1 = 1");
        Script.run("38: SEEDS rise", "street 'pane 1 1 0 0;' = 1", "span 1 20 1 7 2 0 = " + wholeBy(1, 20, 1, 7), "span 1 20 3 7 2 0 = " + wholeBy(1, 20, 3, 7),
            "span -9 20 2 7 2 0 = " + wholeBy(-9, 20, 2, 7), "span 2147483640 20 1 7 2 0 = " + wholeBy(2147483640, 20, 1, 7),
            "span 5 20 16 7 1 0 = 0", "span 1 20 1 7 0 0 = 0", "span 1 20 1 7 1 0 = 7");
        Script.run("18: MET of many ORDERS", "street 'pane 2 1 0 0;order 0 0 0 1 1;order 0 1 0 1 1;order 0 1 0 2 2;order 0 0 0 1 2;' = 1",
            "work 'day;' = 1", "work 'day;' = 1", "work 'day;' = 1", "order 0 5 = 1", "order 1 5 = 1", "order 2 5 = 1", "order 3 5 = 2", "lost = 3");
        Script.run("19: no such ORDER is counted", "needs 0" + NSE, "order 0 0" + NSE, "status 1 = 2", "status 2 = 0");
        Script.run("28: round a corner", "street 'pane 3 3 0 0;' = 1",
            "work 'day;day;wipe 0 1;day;cell 0 2 0 1;cell 0 1 1 1;cell 0 0 2 1;cell 0 1 2 1;' = 8", "patch 0 0 = 3", "patch 0 1 = 3",
            "work 'wipe 0 30;day;cell 0 0 1 1;cell 0 1 1 1;cell 0 1 0 1;' = 5", "patch 0 0 = 5", "patch 0 1 = 4");
        Script.run("28: alike ones", "street 'pane 3 1 0 0;' = 1", "work 'day;day;day;cell 0 0 0 1;cell 0 2 0 2;' = 5", "patch 0 0 = 1", "patch 0 1 = 3");
        Script.run("35: another PANE", STREET, "work 'day;day;cell 1 0 0 1;cell 2 0 0 1;' = 4", "share 1 0 0 11 = 2", "share 1 1 0 11 = 5", "share 1 2 0 11 = 4",
            "share 2 0 0 31 = 1", "share 2 1 0 31 = 2", "share 2 1 0 32 = 3", "share 2 3 3 32 = 2");
        Script.run("33: floors down", "street 'pane 1 1 5 9;pane 1 1 5 4;order 0 0 0 1 1;order 1 0 0 1 9;' = 2", "round 3 0 = 32", "round 3 1 = 21",
            "by 3 16 = true", "by 3 15 = false", "work 'day;' = 1", "by 3 31 = false", "by 3 32 = true");
        Script.run("4: seen and deep", "street 'pane 1 1 0 0;' = 1", "law 'day-1' = 1", "work 'day;day;day;' = 3", "deep 0 0 0 = 2", "law 'seen-2' = 1",
            "settles 0 0 0 = true", "law 'deep-1' = 1", "settles 0 0 0 = true", "law 'deep-2' = 1", "settles 0 0 0 = false", "law 'bazz' = -9", "fault = 0",
            "law 'bay' = -9", "law 'z' = -9", "fault = 0", "law 'dayz' = -9", "fault = 0", "law 'zday' = -9", "fault = 0");
        Script.run("17: no rain, whatever it was", "street 'pane 1 1 0 0;rain 1 3;rain 2 3;' = 1", "law 'rain' = 1", "work 'day;' = 1", "shows 0 0 0 = 1",
            "settles 0 0 0 = false", "work 'day;' = 1", "shows 0 0 0 = 2", "told 6 = 1");
        Script.run("6: a CELL twice in the last row", "book '3 3 1;3 3 2;' = -8", "fault = 8", "book '0 0 1;0 4 2;' = -8", "fault = 8");
        Script.run("9: REFUSED, behind undo", "work '' = 0", "work 'rinse;' = 0", "told 8 = 1", "undo = 1", "told 8 = 0");
        Script.run("37: WASHED ahead of the break", "street 'pane 2 2 0 0;rain 2 1;rain 4 1;' = 1", "decade 5 0 4 2 = 8", "decade 5 1 4 2 = "
            + 4 * (Math.min(4, wholeDays(5, 1, 4)) / 2));
    }

    /** For a STREET of one PANE: on how many DAYS it stays whole, counted with 64 bits. */
    private static int wholeDays(int seed, int q, int days) {
        long s = seed & 0xFFFFFFFFL;
        for (int d = 0; d < days; d++) {
            s = (s * 1103515245L + 12345L) & 0xFFFFFFFFL;
            if ((s >> 16 & 32767) % 16 < q) {
                return d;
            }
        }
        return days;
    }

    private static int wholeBy(int seed, int many, int q, int days) {
        int whole = 0;
        for (int i = 0; i < many; i++) {
            whole += wholeDays(seed + i, q, days) == days ? 1 : 0;
        }
        return whole;
    }

    /** What one text told is not in the next, nor in the one behind that. */
    private static void leftovers() {
        Script.run("3: nothing is left of a STREET", "street 'pane 2 2 5 5;rain 1 1;rain 2 9;order 0 1 1 1 1;pace 9 9;hold 1;' = 1",
            "street 'pane 2 2 5 5;rain 1 1;rain 2 9;order 0 1 1 1 1;pace 9 9;hold 1;' = 1", "street 'pane 1 1 5 2;order 0 0 0 1 2;' = 1", "told 1 = 1", "told 2 = 0",
            "round 1 0 = 11", "work 'day;day;day;' = 3", "deep 0 0 0 = 3", "told 6 = 0", "street 'pane 1 1 5 2;' = 1", "told 1 = 0", "told 2 = 0",
            "work 'day;day;' = 2", "deep 0 0 0 = 2", "street '' = 0", "told 0 = 0");
        Script.run("3: nothing is left of a WORK", "street 'pane 1 1 0 0;order 0 0 0 1 1;' = 1", "work 'day;day;wipe 0 1;' = 3", "order 0 5 = 1", "told 5 = 1",
            "street 'pane 1 1 0 0;order 0 0 0 1 1;' = 1", "told 5 = 0", "films 2 0 = 0", "work 'day;wipe 0 1;rinse;day;' = 4", "order 0 5 = 2");
        Script.run("3: nothing is left of a LAW", "street 'pane 1 1 0 0;' = 1", "law '0*1' = 1", "law '0+0' = 1", "street 'pane 1 1 0 0;' = 1",
            "settles 0 0 0 = true", "law '0' = 1", "street 'pane 1 1 0 0;' = 1", "settles 0 0 0 = true", "law 'day' = 1", "law '0' = 1", "settles 0 0 0 = false");
        Script.run("3: nothing is left of a BOOK", "street 'pane 1 1 0 0;' = 1", "book '0 0 9;3 3 3;' = 2", "book '0 0 9;' = 1", "street 'pane 1 1 0 0;' = 1",
            "told 7 = 0", "tells 0 = 2147483647", "look 0 0 = 0", "look 0 1 = 31", "book '0 0 0;' = 1", "tells 0 = 2147483647", "look 0 0 = -1");
        Script.run("40: the WORKS of an IMAGE stay its own", "street 'pane 1 1 0 0;' = 1", "work 'day;' = 1", "work 'day;' = 1", "work 'day;' = 1", "image = 1",
            "undo = 2", "undo = 1", "undo = 0", "law '0' = 1", "work 'again 5 [day;];' = 5", "work 'again 5 [day;];' = 5", "work 'day;' = 1", "restore = 0", "told 3 = 3",
            "told 4 = 3", "undo = 2", "told 3 = 2", "told 4 = 2", "undo = 1", "told 3 = 1", "told 4 = 1", "undo = 0", "told 3 = 0", "told 4 = 0");
    }
}
