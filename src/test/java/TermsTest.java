import java.io.IOException;

/** The chapter "Terms", sentence by sentence: each is quoted, and has a test of its own at its edges. */
public final class TermsTest {
    private static final String ONE = "street 'pane 1 1 0 0;' = 1";
    private static final String ROW = "street 'pane 4 1 0 0;' = 1";
    private static final String FOUR = "street 'pane 2 2 0 0;' = 1";
    private static final String IAE = " ! IllegalArgument";
    private static final String NSE = " ! NoSuchElement";
    private static final String IOOBE = " ! IndexOutOfBounds";

    private static Document doc;

    private static void of(String words, String... lines) {
        doc.quote("Terms", words);
        Script.run("Terms: " + words, lines);
    }

    private static String times(int n, String text) {
        return text.repeat(n);
    }

    public static void main(String[] args) throws IOException {
        doc = new Document("../shared/DOC.md");
        streets();
        clauses();
        orderClauses();
        paceAndHold();
        laws();
        lawNames();
        lawValues();
        works();
        workNumbers();
        books();
        signs();
        faultsOfOne();
        faultsOfTwo();
        faultsOfThree();
        faultsAtOnePlace();
        beginnings();
        stepsBegun();
        wiping();
        days();
        settling();
        rinsing();
        ordersMet();
        costsAndViews();
        seams();
        tellsAndLook();
        covers();
        games();
        rounds();
        deadlines();
        shares();
        decades();
        int missing = 0;
        for (String words : doc.unquoted()) {
            if (words.startsWith("Terms: ")) {
                missing++;
                System.out.println("no test quotes " + words);
            }
        }
        System.out.println(Script.asked() + " answers asked, " + Script.wrong() + " not as due");
        if (Script.wrong() + doc.wrong() + missing != 0) {
            System.exit(1);
        }
    }

    private static void streets() {
        of("A STREET is a text of up to 600 bytes: { CLAUSE \";\" }",
            "street '" + times(593, " ") + "hold 1;' = 0", "street 'pane 1 1 0 0;" + times(587, " ") + "' = 1",
            "street '" + times(594, " ") + "hold 1' = -9", "fault = 600", "street '' = 0", "street ';' = -9", "fault = 0",
            "street 'hold 1' = -9", "fault = 6", "street 'hold 1;;' = -9", "fault = 7");
        of("at most 60.",
            "street 'pane 1 1 0 0;" + times(59, "hold 1;") + "' = 1", "street '" + times(59, "hold 1;") + "pane 1 1 0 0;' = 1",
            "street '" + times(60, "hold 1;") + "pane 1 1 0 0;' = -7", "fault = 420", "told 0 = 1",
            "street '" + times(30, "hold 1;pace 1 1;") + "' = 0", "street '" + times(30, "pace 1 1;hold 1;") + " hold 1;' = -7",
            "fault = 481");
    }

    private static void clauses() {
        of("CLAUSE: \"pane\" W H X F (PANES, numbered from 0 on, 5 at most: CELLS X Y",
            "street 'pane 1 2 3 4;pane 2 1 5 6;pane 3 3 7 8;pane 4 2 9 9;pane 2 4 60 0;' = 5", "pane 0 0 = 1", "pane 0 1 = 2",
            "pane 0 2 = 3", "pane 0 3 = 4",
            "pane 4 0 = 2", "pane 4 1 = 4", "pane 4 2 = 60", "pane 4 3 = 0", "pane 5 0" + NSE,
            "street '" + times(5, "pane 1 1 0 0;") + "pane 1 1 0 0;' = -7", "fault = 65", "told 0 = 5",
            "street '" + times(4, "pane 1 1 0 0;") + "' = 4");
        of("X 0 to W less 1, W 1 to 4",
            "street 'pane 4 1 0 0;' = 1", "shows 0 3 0 = 0", "shows 0 4 0" + IOOBE, "shows 0 -1 0" + IOOBE, "street 'pane 1 1 0 0;' = 1",
            "shows 0 0 0 = 0",
            "shows 0 1 0" + IOOBE, "street 'pane 0 1 0 0;' = -8", "fault = 5", "street 'pane 5 1 0 0;' = -8", "fault = 5",
            "street 'pane 3 1 0 0;' = 1",
            "shows 0 2 0 = 0", "shows 0 3 0" + IOOBE);
        of("Y 0 to H less 1, H 1 to 4",
            "street 'pane 1 4 0 0;' = 1", "shows 0 0 3 = 0", "shows 0 0 4" + IOOBE, "shows 0 0 -1" + IOOBE, "street 'pane 1 1 0 0;' = 1",
            "shows 0 0 1" + IOOBE,
            "street 'pane 1 0 0 0;' = -8", "fault = 7", "street 'pane 1 5 0 0;' = -8", "fault = 7");
        of("it hangs X steps along the street, 0 to 60",
            "street 'pane 1 1 60 0;' = 1", "pane 0 2 = 60", "street 'pane 1 1 0 0;' = 1", "pane 0 2 = 0", "street 'pane 1 1 61 0;' = -8",
            "fault = 9",
            "street 'pane 1 1 -1 0;' = -9", "fault = 9", "pane 0 2 = 0");
        of("on floor F, 0 to 9)",
            "street 'pane 1 1 0 9;' = 1", "pane 0 3 = 9", "street 'pane 1 1 0 0;' = 1", "pane 0 3 = 0", "street 'pane 1 1 0 10;' = -8",
            "fault = 11");
        of("\"rain\" D N (12 at most: on DAY D, 1 to 200",
            "street '" + times(12, "rain 1 1;") + "' = 0", "told 2 = 12", "street '" + times(13, "rain 1 1;") + "' = -7", "fault = 108",
            "street 'rain 0 1;' = -8", "fault = 5", "street 'rain 201 1;' = -8", "fault = 5", "street 'rain 200 1;' = 0",
            "street 'pane 1 1 0 0;rain 1 1;rain 200 1;' = 1", "work 'day;day;' = 2", "told 6 = 0", "deep 0 0 0 = 2", "pass 197 = 199",
            "told 6 = 0",
            "work 'day;' = 1", "told 6 = 1");
        of("it takes N films, 1 to 9, off each CELL)",
            "street 'rain 1 0;' = -8", "fault = 7", "street 'rain 1 10;' = -8", "fault = 7",
            "street 'pane 2 1 0 0;pane 1 1 0 0;rain 11 9;' = 2", "pass 10 = 10",
            "work 'day;' = 1", "deep 0 0 0 = 2", "film 0 0 0 0 = 11", "film 0 1 0 1 = 1", "deep 1 0 0 = 2", "told 6 = 27",
            "street 'pane 1 1 0 0;rain 3 1;' = 1", "work 'day;day;day;' = 3", "film 0 0 0 0 = 3", "film 0 0 0 1 = 1", "told 6 = 1");
    }

    private static void orderClauses() {
        of("\"order\" P X Y D T (ORDERS likewise, 12: CELL X Y of PANE P, told ahead",
            "street 'pane 1 1 0 0;" + times(12, "order 0 0 0 1 1;") + "' = 1", "told 1 = 12", "order 11 3 = 1", "order 12 3" + NSE,
            "street 'pane 1 1 0 0;" + times(13, "order 0 0 0 1 1;") + "' = -7", "fault = 205",
            "street 'order 0 0 0 1 1;' = -8", "fault = 6", "street 'order 0 0 0 1 1;pane 1 1 0 0;' = -8", "fault = 6",
            "street 'pane 1 1 0 0;order 1 0 0 1 1;pane 1 1 0 0;' = -8", "fault = 19",
            "street 'pane 1 1 0 0;order 0 0 0 1 1;pane 1 1 0 0;order 1 0 0 1 1;' = 2",
            "order 0 0 = 0", "order 1 0 = 1", "street 'pane 2 3 0 0;order 0 2 0 1 1;' = -8", "fault = 21",
            "street 'pane 2 3 0 0;order 0 1 3 1 1;' = -8", "fault = 23",
            "street 'pane 2 3 0 0;order 0 1 2 1 1;' = 1", "order 0 1 = 1", "order 0 2 = 2");
        of("is to show DAY D, 1 to 200, behind DAY T, D to 200)",
            "street 'pane 1 1 0 0;order 0 0 0 0 1;' = -8", "fault = 25", "street 'pane 1 1 0 0;order 0 0 0 201 201;' = -8", "fault = 25",
            "street 'pane 1 1 0 0;order 0 0 0 5 4;' = -8", "fault = 27", "street 'pane 1 1 0 0;order 0 0 0 5 5;' = 1", "order 0 4 = 5",
            "street 'pane 1 1 0 0;order 0 0 0 5 201;' = -8", "fault = 27", "street 'pane 1 1 0 0;order 0 0 0 200 200;' = 1",
            "order 0 3 = 200",
            "street 'pane 1 1 0 0;order 0 0 0 200 199;' = -8", "fault = 29", "street 'pane 1 1 0 0;order 0 0 0 1 200;' = 1",
            "order 0 4 = 200");
    }

    private static void paceAndHold() {
        of("\"pace\" A B (A minutes for a step on the street, B for a floor, 1 to 9 both",
            "street 'pane 1 1 3 2;order 0 0 0 1 1;pace 1 9;' = 1", "round 1 0 = 21", "street 'pane 1 1 3 2;order 0 0 0 1 1;pace 9 1;' = 1",
            "round 1 0 = 29",
            "street 'pace 0 1;' = -8", "fault = 5", "street 'pace 10 1;' = -8", "fault = 5", "street 'pace 1 0;' = -8", "fault = 7",
            "street 'pace 1 10;' = -8", "fault = 7");
        of("1 and 3 without; the last counts)",
            "street 'pane 1 1 3 2;order 0 0 0 1 1;' = 1", "round 1 0 = 9", "street 'pace 5 5;pane 1 1 3 2;order 0 0 0 1 1;pace 2 4;' = 1",
            "round 1 0 = 14",
            "street 'pane 1 1 3 2;order 0 0 0 1 1;' = 1", "round 1 0 = 9", "street 'pace 5 5;pace 7 0;' = -8", "fault = 16",
            "round 1 0 = 9");
        of("or \"hold\" N (a CELL holds N films at most, 1 to 30",
            "street 'hold 0;' = -8", "fault = 5", "street 'hold 31;' = -8", "fault = 5", "street 'pane 1 1 0 0;hold 1;' = 1",
            "work 'day;day;day;' = 3",
            "deep 0 0 0 = 1", "shows 0 0 0 = 3", "street 'pane 1 1 0 0;hold 30;' = 1", "pass 30 = 30", "deep 0 0 0 = 30",
            "film 0 0 0 29 = 1", "pass 1 = 31",
            "deep 0 0 0 = 30", "film 0 0 0 29 = 2", "film 0 0 0 0 = 31");
        of("20 without; the last counts).",
            ONE, "pass 20 = 20", "deep 0 0 0 = 20", "film 0 0 0 19 = 1", "pass 1 = 21", "deep 0 0 0 = 20", "film 0 0 0 19 = 2",
            "street 'hold 30;pane 1 1 0 0;hold 2;' = 1", "pass 5 = 5", "deep 0 0 0 = 2", "street 'hold 2;pane 1 1 0 0;hold 30;' = 1",
            "pass 25 = 25", "deep 0 0 0 = 25");
    }

    private static void laws() {
        of("A LAW is a text of up to 150 bytes: E, at the end nothing more; without: 1.",
            ONE, "settles 0 0 0 = true", "law '" + times(149, "0") + "1' = 1", "settles 0 0 0 = true", "law '0" + times(149, " ") + "' = 1",
            "settles 0 0 0 = false",
            "law '" + times(151, "0") + "'" + IAE, "count 1 = 160", "law 150 = 1", "law '1 1' = -9", "fault = 2", "law '1;' = -9",
            "fault = 1", "law '' = -9", "fault = 0",
            "law '1]' = -9", "fault = 1", "settles 0 0 0 = false", "street 'pane 1 1 0 0;' = 1", "settles 0 0 0 = true");
        of("On a DAY a film settles on a CELL, if it is above 0.",
            ONE, "law '0' = 1", "work 'day;' = 1", "deep 0 0 0 = 0", "law '0-1' = 1", "work 'day;' = 1", "deep 0 0 0 = 0", "law '1' = 1",
            "work 'day;' = 1",
            "deep 0 0 0 = 1", "law '999' = 1", "work 'day;' = 1", "deep 0 0 0 = 2", "law 'day-5' = 1", "work 'day;' = 1", "deep 0 0 0 = 2",
            "work 'day;' = 1", "deep 0 0 0 = 3");
        of("E: T { + or - T }. T: U { * or / or % U }.",
            ONE, "law '1+' = -9", "fault = 2", "law '*1' = -9", "fault = 0", "law '1**1' = -9", "fault = 2", "law '1--1' = -9", "fault = 2",
            "law '1-1+1' = 1", "settles 0 0 0 = true", "law '1-2*3+5' = 1", "settles 0 0 0 = false", "law '1-2*3+6' = 1",
            "settles 0 0 0 = true",
            "law '8/4*2-3' = 1", "settles 0 0 0 = true", "law '8/4*2-4' = 1", "settles 0 0 0 = false", "law '7%4*2-5' = 1",
            "settles 0 0 0 = true", "law '7%4*2-6' = 1", "settles 0 0 0 = false",
            "law '9-3-5' = 1", "settles 0 0 0 = true", "law '9-3-6' = 1", "settles 0 0 0 = false", "law '" + times(74, "0+") + "01' = 1",
            "settles 0 0 0 = true",
            "law '" + times(74, "1*") + "00' = 1", "settles 0 0 0 = false");
    }

    private static void lawNames() {
        of("U: N (0 to 999), \"day\", \"x\", \"y\", \"floor\", \"pane\" (their numbers)",
            ONE, "law '1000' = -8", "fault = 0", "law '1+ 1000' = -8", "fault = 3", "law '999-998' = 1", "settles 0 0 0 = true",
            "law '0' = 1", "settles 0 0 0 = false",
            "street 'pane 4 4 7 9;pane 4 4 7 0;' = 2", "law 'floor-8' = 1", "settles 0 0 0 = true", "settles 1 0 0 = false",
            "law 'pane' = 1", "settles 0 0 0 = false", "settles 1 0 0 = true",
            "law 'x-2' = 1", "settles 0 3 0 = true", "settles 0 2 0 = false", "settles 0 0 3 = false", "law 'y-2' = 1",
            "settles 0 0 3 = true", "settles 0 0 2 = false", "settles 0 3 0 = false",
            "law 'day-1' = 1", "settles 0 0 0 = false", "work 'day;' = 1", "settles 0 0 0 = true", "told 4 = 0", "law 'days' = -9",
            "fault = 0");
        of("\"deep\" (films on the CELL)",
            ONE, "law '2-deep' = 1", "pass 5 = 5", "deep 0 0 0 = 2", "shows 0 0 0 = 2", "work 'wipe 0 1;' = 1", "settles 0 0 0 = true",
            "work 'day;' = 1", "shows 0 0 0 = 6",
            "settles 0 0 0 = false", "law 'deep' = 1", "work 'wipe 0 2;day;' = 2", "deep 0 0 0 = 0");
        of("\"seen\" (the DAY it shows; 0: bare)",
            ONE, "law '1-seen' = 1", "work 'day;day;' = 2", "deep 0 0 0 = 1", "shows 0 0 0 = 1", "work 'wipe 0 1;day;' = 2",
            "shows 0 0 0 = 3", "law 'seen-2' = 1", "settles 0 0 0 = true",
            "law 'seen-3' = 1", "settles 0 0 0 = false", "work 'wipe 0 1;' = 1", "law 'seen' = 1", "settles 0 0 0 = false");
        of("\"rain\" (films that rain takes on this DAY, all told together)",
            "street 'pane 1 1 0 0;rain 2 3;rain 3 9;rain 2 4;' = 1", "law 'rain-6' = 1", "work 'day;' = 1", "deep 0 0 0 = 0",
            "work 'day;' = 1", "shows 0 0 0 = 2", "told 6 = 0",
            "work 'day;' = 1", "shows 0 0 0 = 3", "told 6 = 1", "work 'day;' = 1", "shows 0 0 0 = 3",
            "street 'pane 1 1 0 0;rain 2 3;rain 2 4;' = 1", "law 'rain-7' = 1", "work 'day;day;' = 2",
            "deep 0 0 0 = 0", "street 'pane 1 1 0 0;" + times(12, "rain 2 9;") + "' = 1", "law 'rain-107' = 1", "work 'day;day;' = 2",
            "deep 0 0 0 = 1");
        of("\"least\" \"[\" E \",\" E \"]\", \"most\" \"[\" E \",\" E \"]\", or \"(\" E \")\".",
            ONE, "law 'least[1,0]' = 1", "settles 0 0 0 = false", "law 'least[0,1]' = 1", "settles 0 0 0 = false", "law 'most[1,0]' = 1",
            "settles 0 0 0 = true",
            "law 'most[0,1]' = 1", "settles 0 0 0 = true", "law 'least[1,1]' = 1", "settles 0 0 0 = true", "law 'most[0-1,0]+1' = 1",
            "settles 0 0 0 = true", "law 'least[0-1,0]+1' = 1",
            "settles 0 0 0 = false", "law '(1-2)*(1-3)' = 1", "settles 0 0 0 = true", "law '2*(1-1)' = 1", "settles 0 0 0 = false",
            "law 'least[1]' = -9", "fault = 7",
            "law 'least[1,2' = -9", "fault = 9", "law 'least[1,2)' = -9", "fault = 9", "law 'most 1,2]' = -9", "fault = 5",
            "law '(1]' = -9", "fault = 2", "law '[1]' = -9", "fault = 0",
            "law 'least[(1),most[0,(1+1)*1]]' = 1", "settles 0 0 0 = true");
    }

    private static void lawValues() {
        String to31 = "512*512*512*16";
        of("Values are whole numbers of 32 bits that wrap",
            ONE, "law '" + to31 + "' = 1", "settles 0 0 0 = false", "law '" + to31 + "-1' = 1", "settles 0 0 0 = true",
            "law '0-" + to31 + "' = 1", "settles 0 0 0 = false",
            "law '" + to31 + "-1+1' = 1", "settles 0 0 0 = false", "law '" + to31 + "*2' = 1", "settles 0 0 0 = false",
            "law '" + to31 + "*2+1' = 1", "settles 0 0 0 = true",
            "law '0-(" + to31 + "-1)-2' = 1", "settles 0 0 0 = true", "law '(" + to31 + "-1)*3-512*512*512*8' = 1", "settles 0 0 0 = true",
            "law 'most[" + to31 + ",0-1]+2' = 1", "settles 0 0 0 = true", "law 'least[" + to31 + "-1," + to31 + "]' = 1",
            "settles 0 0 0 = false");
        of("/ cuts, % leaves (with the sign of what is divided)",
            ONE, "law '1/2' = 1", "settles 0 0 0 = false", "law '3/2' = 1", "settles 0 0 0 = true", "law '(0-1)/2+1' = 1",
            "settles 0 0 0 = true", "law '1/(0-2)+1' = 1", "settles 0 0 0 = true",
            "law '(0-3)/2+1' = 1", "settles 0 0 0 = false", "law '(0-3)/2+2' = 1", "settles 0 0 0 = true", "law '(0-1)%3' = 1",
            "settles 0 0 0 = false", "law '(0-5)%3+3' = 1", "settles 0 0 0 = true",
            "law '(0-5)%3+2' = 1", "settles 0 0 0 = false", "law '5%(0-3)-1' = 1", "settles 0 0 0 = true", "law '5%(0-3)-2' = 1",
            "settles 0 0 0 = false",
            "law '" + to31 + "/(0-1)' = 1", "settles 0 0 0 = false", "law '" + to31 + "/(0-1)-1' = 1", "settles 0 0 0 = true",
            "law '" + to31 + "%(0-1)+1' = 1", "settles 0 0 0 = true",
            "law '" + to31 + "%(0-1)' = 1", "settles 0 0 0 = false");
        of("by 0 both are 0.",
            ONE, "law '7/0' = 1", "settles 0 0 0 = false", "law '7/0+1' = 1", "settles 0 0 0 = true", "law '7%0' = 1",
            "settles 0 0 0 = false", "law '7%0+1' = 1", "settles 0 0 0 = true",
            "law '0/0+1' = 1", "settles 0 0 0 = true", "law '7%x/y+1' = 1", "settles 0 0 0 = true", "law '(0-7)%(1-1)+1' = 1",
            "settles 0 0 0 = true", "law '5/deep+1' = 1", "work 'day;' = 1", "deep 0 0 0 = 1");
    }

    private static void works() {
        of("WORK is a text of up to 200 bytes: { STEP \";\" }.",
            ONE, "work '" + times(50, "day;") + "' = 50", "work '" + times(50, "day;") + " '" + IAE, "count 1 = 220", "told 3 = 50",
            "work 200 = 50", "told 3 = 100",
            "work '" + times(196, " ") + "day;' = 1", "work '" + times(197, " ") + "day' = -9", "fault = 200", "work '' = 0",
            "work ';' = -9", "fault = 0", "work 'day;;' = -9", "fault = 4",
            "work 'day' = -9", "fault = 3", "told 3 = 101");
        of("STEP: \"wipe\" P N, \"cell\" P X Y N, \"circle\" P X Y R N (R 0 to 6; N 1 to 30 in all three)",
            FOUR, "work 'wipe 0 0;' = -8", "fault = 7", "work 'wipe 0 31;' = -8", "fault = 7", "work 'wipe 1 1;' = -8", "fault = 5",
            "work 'wipe 0 1;wipe 0 30;' = 0", "told 8 = 2",
            "work 'cell 0 0 0 0;' = -8", "fault = 11", "work 'cell 0 0 0 31;' = -8", "fault = 11", "work 'cell 1 0 0 1;' = -8", "fault = 5",
            "work 'cell 0 2 0 1;' = -8", "fault = 7",
            "work 'cell 0 0 2 1;' = -8", "fault = 9", "work 'cell 0 1 1 1;cell 0 1 1 30;' = 0", "told 8 = 2",
            "work 'circle 0 0 0 0 0;' = -8", "fault = 15", "work 'circle 0 0 0 0 31;' = -8", "fault = 15",
            "work 'circle 0 0 0 7 1;' = -8", "fault = 13", "work 'circle 0 0 2 6 1;' = -8", "fault = 11", "work 'circle 0 2 0 6 1;' = -8",
            "fault = 9", "work 'circle 1 0 0 6 1;' = -8", "fault = 7",
            "work 'day;circle 0 0 0 0 30;circle 0 1 1 6 1;' = 3", "count 2 = 3", "told 4 = 0", "told 5 = 4");
    }

    private static void workNumbers() {
        of("\"day\", \"rinse\", \"break\" P, or \"again\" N \"[\" { STEP \";\" } \"]\" (N 0 to 20).",
            ONE, "work 'break 1;' = -8", "fault = 6", "work 'break -1;' = -9", "fault = 6", "work 'break;' = -9", "fault = 5",
            "work 'day 1;' = -9", "fault = 4", "work 'rinse 0;' = -9", "fault = 6",
            "work 'again 21 [day;];' = -8", "fault = 6", "work 'again 0 [day;];' = 0", "told 3 = 0", "work 'again 20 [day;];' = 20",
            "told 3 = 20", "work 'again 5 [];' = 0", "work 'again 1 [day];' = -9", "fault = 12",
            "work 'again 1 [day;]' = -9", "fault = 14", "work 'again 1 [day;;];' = -9", "fault = 13", "work 'again 1 day;;' = -9",
            "fault = 8", "work 'again [day;];' = -9", "fault = 6", "work 'again 1 [day;' = -9", "fault = 13",
            "work '];' = -9", "fault = 0", "told 3 = 20", "work 'again 2 [day;again 3 [day;];];break 0;' = 9", "told 3 = 28");
    }

    private static void books() {
        of("A BOOK is a text of up to 100 bytes: { X Y D \";\" }, 8 lines at most",
            "book '" + times(94, " ") + "0 0 0;' = 1", "book '" + times(101, " ") + "'" + IAE, "count 1 = 120", "told 7 = 1",
            "book 100 = 0", "told 7 = 0", "book '' = 0",
            "book '0 0 1;1 0 1;2 0 1;3 0 1;0 1 1;1 1 1;2 1 1;3 1 1;' = 8",
            "book '0 0 1;1 0 1;2 0 1;3 0 1;0 1 1;1 1 1;2 1 1;3 1 1;0 2 1;' = -7", "fault = 48", "told 7 = 8",
            "book '0 0 1;1 0 1;2 0 1;3 0 1;0 1 1;1 1 1;2 1 1;' = 7", "book ';' = -9", "fault = 0", "book '0 0 1' = -9", "fault = 5",
            "book '0 0 1;;' = -9", "fault = 6");
        of("no CELL twice", "book '0 0 1;0 0 1;' = -8", "fault = 8", "book '1 0 1;0 1 1;' = 2", "book '3 3 1;0 0 0;3 3 1;' = -8",
            "fault = 14", "book '2 3 1;3 2 1;2 2 1;3 3 1;' = 4",
            "book '1 2 9;1 2 9;' = -8", "fault = 8", "told 7 = 4");
        of("a CELL X Y (X, Y 0 to 3) showed DAY D (0: bare, to 200).",
            "book '0 0 0;' = 1", "book '3 3 200;' = 1", "book '4 0 0;' = -8", "fault = 0", "book '0 4 0;' = -8", "fault = 2",
            "book '0 0 201;' = -8", "fault = 4", "told 7 = 1",
            "new", ONE, "work 'day;day;' = 2", "book '0 0 0;' = 1", "tells 0 = 2147483644", "book '0 0 2;' = 1", "tells 0 = 1",
            "book '0 0 1;' = 1", "tells 0 = 2", "book '0 0 200;' = 1", "tells 0 = 0");
    }

    private static void signs() {
        of("Numbers: digits, as many as stand there",
            ONE, "street 'hold " + times(500, "0") + "5;' = 0", "street 'hold " + times(500, "9") + ";' = -8", "fault = 5",
            "street 'pane 11 11 1;' = -8", "fault = 5", "street 'pane 1 10 0 0;' = -8", "fault = 7",
            "street 'hold 4294967297;' = -8", "street 'hold 18446744073709551617;' = -8", "street 'hold 0000000001;' = 0",
            "book '0 0 00200;' = 1", "law '4294967297' = -8", "fault = 0", "law '0000999' = 1",
            "street 'hold 1a;' = -9", "fault = 6");
        of("WORDS: small letters, as many as stand there",
            "street 'holds 1;' = -9", "fault = 0", "street 'hol 1;' = -9", "fault = 0", "street 'hold1;' = 0", "street 'Hold 1;' = -9",
            "fault = 0", "street 'hOld 1;' = -9", "fault = 0", "street 'paneorder 1;' = -9", "fault = 0",
            "street 'h old 1;' = -9", "fault = 0", "street 'hold`1;' = -9", "fault = 4", "street 'hold{1;' = -9", "fault = 4",
            "law 'dayx' = -9", "fault = 0", "law 'day+x' = 1", "law 'leastt[1,1]' = -9", "fault = 0",
            "work 'dayday;' = -9", "fault = 0", "work 'rinse;days;' = -9", "fault = 6", "work 'again1[day;];' = 1", "work 'wipe0 1;' = -8",
            "fault = 4");
        of("blanks (32) may stand ahead of all these, and at the end.",
            "street '   pane   1   1   0   0   ;   hold   3   ;   ' = 1", "street '          ' = 0",
            "law '   day   +   x   *   ( 1 )   - least [ 1 , 2 ]   ' = 1", "work '  day  ;  again  2  [  day  ;  ]  ;  ' = 3",
            "book '  0   0   1  ;  1  0  0 ;  ' = 2", "law '    ' = -9", "fault = 4", "street 'hold\t1;' = -9", "fault = 4",
            "street 'hold 1;\n' = -9", "fault = 7", "law '1\r' = -9", "fault = 1", "work '\0day;' = -9", "fault = 0",
            "work 'day;\u00a0' = -9", "fault = 4", "book '0 0 1\u001f;' = -9", "fault = 5", "street 'hold 1  0;' = -9", "fault = 8");
    }

    private static void faultsOfOne() {
        of("FAULTS, the first from the left, at its first byte",
            ONE, "street 'hold 99;bad' = -8", "fault = 5", "street 'bad;hold 99;' = -9", "fault = 0", "law '1000+)' = -8", "fault = 0",
            "law ')+1000' = -9", "fault = 0", "work 'wipe 0 99;  bad' = -8", "fault = 7",
            "book '0 0   777;9' = -8", "fault = 6", "street '   1234' = -9", "fault = 3", "work 'day;    wipes 0 1;' = -9", "fault = 8",
            "street 'hold    0031;' = -8", "fault = 8", "law '((((((   ((' = -7", "fault = 9");
        of("1 what can't stand there (at the length, if the text ends too early)",
            ONE, "street 'pane' = -9", "fault = 4", "street 'pane 1 1 0 0' = -9", "fault = 12", "street 'pane 1 1 0 0    ' = -9",
            "fault = 16", "law '' = -9", "fault = 0", "law '1+' = -9", "fault = 2", "law '(1' = -9", "fault = 2",
            "law 'least[1, ' = -9", "fault = 9", "work 'wipe 0' = -9", "fault = 6", "work 'again' = -9", "fault = 5",
            "work 'again 1 [' = -9", "fault = 9", "work 'again 1 [ day;  ' = -9", "fault = 16", "book '0' = -9", "fault = 1",
            "book '0 0' = -9", "fault = 3", "book '0 0 1 ' = -9", "fault = 6",
            // bytes behind n are not of the text
            "tape 'hold 1;' = 20", "street 6 = -9", "fault = 6", "tape 'law day+x' = 20", "law 3 = -9", "fault = 0", "tape 'day+xx' = 20",
            "law 5 = 1", "street '1' = -9", "fault = 0", "street '-' = -9", "fault = 0",
            "street 'pane x' = -9", "fault = 5", "street 'pane 1 ; 1' = -9", "fault = 7");
        for (int b = 0; b < 256; b++) {
            boolean starts = b == ' ';
            char c = (char) b;
            if (c != '\'') {
                Script.run("1 what can't stand there: byte " + b, "street '" + c + "' = " + (starts ? 0 : -9),
                    "fault = " + (starts ? -1 : 0), "work '" + c + "' = " + (starts ? 0 : -9), "fault = " + (starts ? -1 : 0),
                    "law '1" + c + "' = " + (c == ' ' || c >= '0' && c <= '9' ? 1 : -9),
                    "fault = " + (c == ' ' || c >= '0' && c <= '9' ? -1 : "+-*/%".indexOf(c) >= 0 ? 2 : 1));
            }
        }
    }

    private static void faultsOfTwo() {
        of("2 a number that is none such (a CELL twice: at its Y)",
            FOUR, "street 'pane 1 1 0 99;' = -8", "fault = 11", "street 'pane 99 1 0 0;' = -8", "fault = 5", "law '1+2*1000' = -8",
            "fault = 4", "work 'cell 0 0 9 1;' = -8", "fault = 9", "work 'again 99 x' = -8", "fault = 6",
            "book '0 0 1;0 0 999;' = -8", "fault = 8", "book '0 0 1;0    0 1;' = -8", "fault = 11", "book '1 1 1;0 0 0;1 1 1;' = -8",
            "fault = 14", "book '0 0 1;0 9 1;' = -8", "fault = 8",
            // a number that is none such where no number may stand is what can't stand there
            "street 'pane 1 1 0 0 99;' = -9", "fault = 13", "street '99' = -9", "fault = 0", "law '1 1000' = -9", "fault = 2");
    }

    private static void faultsOfThree() {
        of("3 a CLAUSE, PANE, rain or ORDER (at its word), a line (at its X) too many",
            "street '" + times(60, "hold 1;") + "  hold 1;' = -7", "fault = 422",
            "street '" + times(5, "pane 1 1 0 0;") + "  pane 9 9 9 9;' = -7", "fault = 67",
            "street '" + times(12, "rain 1 1;") + " rain' = -7", "fault = 109",
            "street 'pane 1 1 0 0;" + times(12, "order 0 0 0 1 1;") + "  order 9' = -7", "fault = 207",
            "street '" + times(5, "pane 1 1 0 0;") + "hold 9;' = 5", "street '" + times(12, "rain 1 1;") + "hold 9;' = 0",
            "book '0 0 1;1 0 1;2 0 1;3 0 1;0 1 1;1 1 1;2 1 1;3 1 1;   0 2 1;' = -7", "fault = 51",
            "book '0 0 1;1 0 1;2 0 1;3 0 1;0 1 1;1 1 1;2 1 1;3 1 1;3 3 999;' = -7", "fault = 48");
        of("or a 7th of ( least most again that is open at one time",
            ONE, "law '((((((1))))))' = 1", "law '(((((((1)))))))' = -7", "fault = 6", "law '((((((least' = -7", "fault = 6",
            "law '(((((( most' = -7", "fault = 7",
            "law 'least[most[least[most[least[most[1,1],1],1],1],1],1]' = 1",
            "law 'least[most[least[most[least[most[least[1,1],1],1],1],1],1],1]' = -7", "fault = 33",
            "law '((((((1))))))*((((((1))))))' = 1", "law '((((((1)))))+((1)))' = 1", "law '((((((1)))))+(((1))))' = 1",
            "law '(((((1+((1))))))+(((1))))' = -7", "fault = 8",
            "work '" + times(6, "again 1[") + "day;" + times(6, "];") + "' = 1",
            "work '" + times(7, "again 1[") + "day;" + times(7, "];") + "' = -7", "fault = 48",
            "work '" + times(6, "again 1[") + times(6, "];") + times(6, "again 1[") + times(6, "];") + "' = 0",
            "work '" + times(5, "again 1[") + "again 1[];again 1[];" + times(5, "];") + "' = 0", "told 3 = 1");
    }

    private static void faultsAtOnePlace() {
        String eight = "0 0 1;1 0 1;2 0 1;3 0 1;0 1 1;1 1 1;2 1 1;3 1 1;";
        of("of one the least.",
            "street '" + times(60, "hold 1;") + "bad 1;' = -9", "fault = 420", "street '" + times(60, "hold 1;") + "1' = -9", "fault = 420",
            "street '" + times(60, "hold 1;") + "hold 99;' = -7", "fault = 420",
            "book '" + eight + "4 0 1;' = -8", "fault = 48", "book '" + eight + "x' = -9", "fault = 48", "book '" + eight + "0 0 1;' = -7",
            "fault = 48",
            "law '((((((bad' = -9", "fault = 6", "law '((((((1000' = -8", "fault = 6", "law '((((((1(' = -9", "fault = 7",
            "work '" + times(6, "again 1[") + "bad' = -9", "fault = 48");
    }

    private static void beginnings() {
        of("It is DAY 0 at first; all CELLS are bare, the RAG is clean.",
            "told 3 = 0", "told 4 = 0", "told 5 = 0", FOUR, "told 3 = 0", "told 4 = 0", "told 5 = 0", "showing 0 0 = 51", "thick = -1",
            "work 'wipe 0 1;rinse;' = 0", "told 8 = 2");
        of("A CELL has films, each of a DAY, the newest outside: that one it SHOWS.",
            ONE, "work 'day;day;day;' = 3", "shows 0 0 0 = 3", "film 0 0 0 0 = 3", "film 0 0 0 1 = 2", "film 0 0 0 2 = 1",
            "film 0 0 0 3 = 0", "work 'wipe 0 1;' = 1", "shows 0 0 0 = 2", "work 'day;' = 1", "shows 0 0 0 = 4",
            "film 0 0 0 1 = 2");
    }

    private static void stepsBegun() {
        of("STEPS are done in order; one that can't be done is REFUSED, and changes nothing",
            ONE, "work 'day;wipe 0 1;day;' = 3", "shows 0 0 0 = 2", "deep 0 0 0 = 1", "told 5 = 1",
            "work 'wipe 0 1;wipe 0 1;rinse;rinse;break 0;break 0;wipe 0 1;cell 0 0 0 1;circle 0 0 0 6 1;' = 3", "told 8 = 6", "told 3 = 2",
            "told 5 = 0",
            "new", ONE, "pass 200 = 200", "work 'wipe 0 1;day;rinse;day;' = 2", "told 8 = 2", "told 3 = 200", "shows 0 0 0 = 199",
            "told 5 = 0");
        String nine = times(9, "rinse;");
        of("200 STEPS at most are begun by one WORK (an again, too, each time it is come to; REFUSED ones, too), what would come behind is left out.",
            
            ONE, "work 'again 20[" + nine + "];" + times(19, "day;") + "' = 19", "told 8 = 180", "undo = 0",
            "work 'again 20[" + nine + "];" + times(20, "day;") + "' = 19", "told 3 = 19", "undo = 0",
            "work 'again 19[again 9[day;];];' = 171", "undo = 0", "work 'again 20[again 9[day;];];' = 179", "undo = 0",
            "work 'again 20[again 20[again 0[];];];day;' = 0", "undo = 0", "work 'again 20[again 10[];];again 20[again 20[];];' = 0",
            "undo = 0",
            "work 'again 20[again 0[];again 0[];again 0[];again 0[];again 0[];again 0[];again 0[];again 0[];again 0[];];" + times(20, "day;") + "' = 19",
            "undo = 0",
            // what is left out is not REFUSED
            "work 'again 20[again 20[rinse;];];' = 0", "told 8 = 189", "undo = 0", "work 'again 20[again 20[day;rinse;];];' = 97",
            "told 8 = 97", "told 3 = 97", "undo = 0",
            "work 'again 20[again 20[rinse;day;];];' = 97", "told 8 = 97", "work 'day;' = 1", "told 8 = 0", "told 3 = 98");
    }

    private static void wiping() {
        of("wipe: the outer N films of each CELL of P (all, if there are fewer) come on the RAG (REFUSED, if all CELLS are bare).",
            "street 'pane 2 1 0 0;pane 1 1 0 0;' = 2", "work 'day;day;day;cell 0 0 0 2;rinse;' = 5", "work 'wipe 0 2;' = 1", "told 5 = 3",
            "deep 0 0 0 = 0", "deep 0 1 0 = 1", "films 1 0 = 1", "films 2 0 = 1", "films 3 0 = 1", "deep 1 0 0 = 3",
            "work 'wipe 0 30;' = 1", "told 5 = 4", "films 1 0 = 2", "work 'wipe 0 1;' = 0", "told 8 = 1", "told 5 = 4",
            "work 'wipe 1 3;' = 1", "told 5 = 7", "told 4 = 0", "work 'wipe 1 1;' = 0",
            "new", ONE, "work 'wipe 0 1;' = 0", "told 8 = 1", "work 'day;wipe 0 1;wipe 0 1;' = 2", "told 8 = 1");
        of("cell: of one.", FOUR, "work 'day;day;cell 0 1 0 1;' = 3", "showing 0 1 = 2", "showing 0 2 = 49", "told 5 = 1",
            "work 'cell 0 0 1 9;' = 1", "showing 0 0 = 16", "told 5 = 3");
        of("circle: of each CELL whose steps from X Y (sideways and up together) are R at most (both REFUSED likewise).",
            "street 'pane 4 4 0 0;pane 1 1 0 0;' = 2", "work 'day;' = 1", "work 'circle 0 0 0 0 1;' = 1", "showing 0 0 = 1", "undo = 1",
            "work 'circle 0 0 0 1 1;' = 1", "showing 0 0 = 19", "undo = 1", "work 'circle 0 3 0 2 1;' = 1", "showing 0 0 = 2254",
            "undo = 1", "work 'circle 0 0 0 5 1;' = 1", "showing 0 1 = 32768", "undo = 1", "work 'circle 0 0 0 6 1;' = 1",
            "showing 0 1 = 0", "deep 1 0 0 = 1", "undo = 1", "work 'circle 0 3 3 6 1;' = 1", "showing 0 1 = 0", "undo = 1",
            "work 'circle 0 1 1 1 1;' = 1", "showing 0 0 = 626", "told 5 = 5", "work 'circle 0 1 1 1 1;cell 0 1 1 1;cell 0 2 1 1;' = 0",
            "told 8 = 3", "work 'circle 0 1 1 2 1;' = 1", "told 8 = 0", "work 'circle 0 1 1 2 1;cell 0 3 3 1;cell 0 3 3 1;' = 1",
            "told 8 = 2");
    }

    private static void days() {
        of("day: the DAY is one more (REFUSED on DAY 200)",
            ONE, "work 'day;' = 1", "told 3 = 1", "pass 198 = 199", "work 'day;day;' = 1", "told 8 = 1", "told 3 = 200", "work 'day;' = 0",
            "told 3 = 200", "told 8 = 1", "deep 0 0 0 = 20", "shows 0 0 0 = 200");
        of("rain takes its films (they are WASHED), all CELLS first",
            "street 'pane 2 1 0 0;pane 1 1 0 0;rain 3 1;rain 4 9;' = 2", "work 'day;day;day;' = 3", "told 6 = 3", "told 5 = 0",
            "films 2 1 = 0", "films 3 1 = 3", "films 1 1 = 3", "work 'cell 0 0 0 1;day;' = 2", "told 6 = 8", "told 4 = 3", "films 4 1 = 3",
            "told 5 = 1", "work 'day;wipe 0 9;day;' = 3", "told 6 = 8");
        of("then, as all is behind it, a film of the DAY settles on each CELL by the LAW (PANE by PANE, Y by Y, X rising; each by its own)",
            "street 'pane 2 2 0 0;pane 2 2 0 1;rain 2 1;' = 2", "law '1-deep' = 1", "work 'day;day;' = 2", "showing 0 2 = 51",
            "showing 1 2 = 51", "told 6 = 8", "told 4 = 8", "law 'x*y+pane' = 1", "work 'day;' = 1", "showing 0 3 = 32", "showing 1 3 = 51",
            "law 'seen%2*(2-deep)' = 1", "work 'day;' = 1", "told 4 = 13", "law 'x-y' = 1", "work 'day;' = 1", "showing 0 5 = 2",
            "showing 1 5 = 2", "law 'y-x' = 1", "work 'day;' = 1", "showing 0 6 = 16", "showing 1 6 = 16");
    }

    private static void settling() {
        of("where a CELL holds as many as it may, its innermost is lost first.",
            "street 'pane 2 1 0 0;hold 2;' = 1", "work 'day;day;' = 2", "film 0 0 0 1 = 1", "work 'cell 0 1 0 1;day;' = 2",
            "deep 0 0 0 = 2", "film 0 0 0 0 = 3", "film 0 0 0 1 = 2", "deep 0 1 0 = 2", "film 0 1 0 1 = 1", "told 6 = 0", "told 5 = 1",
            "law '1-x' = 1", "work 'day;' = 1", "film 0 0 0 1 = 3", "film 0 1 0 0 = 3", "film 0 1 0 1 = 1", "films 2 1 = 0",
            "films 2 0 = 1", "street 'pane 1 1 0 0;hold 2;rain 3 1;' = 1", "work 'day;day;day;' = 3", "film 0 0 0 1 = 1", "told 6 = 1",
            "street 'pane 1 1 0 0;hold 1;rain 3 1;' = 1", "work 'day;day;day;' = 3", "deep 0 0 0 = 1", "told 6 = 1",
            "street 'pane 1 1 0 0;hold 1;' = 1", "work 'day;day;day;' = 3", "deep 0 0 0 = 1", "told 6 = 0");
    }

    private static void rinsing() {
        of("rinse: the RAG is clean (REFUSED, if it is so).",
            ONE, "work 'rinse;' = 0", "told 8 = 1", "work 'day;wipe 0 1;' = 2", "told 5 = 1", "work 'rinse;' = 1", "told 5 = 0",
            "films 1 0 = 0", "told 8 = 0", "work 'rinse;' = 0", "told 8 = 1", "told 4 = 0");
        of("break: P is BROKEN: all its films are lost, and none settle any more (REFUSED, if it is so).",
            "street 'pane 2 2 0 0;pane 1 1 0 0;rain 3 1;' = 2", "work 'day;wipe 0 1;day;break 0;' = 4", "pane 0 5 = 1", "pane 0 4 = 0",
            "told 5 = 4", "told 6 = 0", "pane 1 5 = 0", "pane 1 4 = 2", "work 'day;' = 1", "pane 0 4 = 0", "told 6 = 1", "pane 1 4 = 2",
            "settles 0 0 0 = false", "settles 1 0 0 = true", "work 'break 0;break 1;break 1;' = 1", "told 8 = 2",
            "work 'wipe 0 1;cell 0 0 0 1;circle 0 0 0 6 1;rinse;' = 1", "told 8 = 3", "law '999' = 1", "work 'day;' = 1", "told 4 = 0",
            "new", ONE, "work 'break 0;day;' = 2", "told 4 = 0");
    }

    private static void ordersMet() {
        of("An ORDER is MET, if its CELL shows D as DAY T ends (as the STEP day begins; on DAY T: now)",
            "street 'pane 1 1 0 0;order 0 0 0 1 2;' = 1", "work 'day;' = 1", "shows 0 0 0 = 1", "order 0 5 = 0", "work 'day;' = 1",
            "order 0 5 = 0", "work 'wipe 0 1;' = 1", "order 0 5 = 1", "work 'day;' = 1", "order 0 5 = 1", "work 'wipe 0 9;' = 1",
            "order 0 5 = 1", "undo = 4", "undo = 3", "work 'wipe 0 1;' = 1", "order 0 5 = 3", "work 'day;' = 1", "order 0 5 = 2",
            "lost = 0", "new", "street 'pane 1 1 0 0;order 0 0 0 1 1;' = 1", "work 'day;' = 1", "order 0 5 = 1", "work 'day;' = 1",
            "order 0 5 = 1",
            "new", "street 'pane 1 1 0 0;order 0 0 0 200 200;' = 1", "pass 199 = 199", "order 0 5 = 0", "work 'day;' = 1", "order 0 5 = 1",
            "work 'day;' = 0", "order 0 5 = 1", "work 'wipe 0 1;' = 1", "order 0 5 = 3", "work 'day;' = 0", "order 0 5 = 3");
        of("GONE, if it is DAY D or later, no later than T, it is not MET, and no film of D is on the CELL.",
            "street 'pane 1 1 0 0;order 0 0 0 2 3;' = 1", "law 'day-2' = 1", "work 'day;' = 1", "order 0 5 = 0", "lost = -1",
            "work 'day;' = 1", "order 0 5 = 3", "lost = 0", "work 'day;' = 1", "order 0 5 = 3", "work 'day;' = 1", "order 0 5 = 2",
            "lost = 0",
            "new", "street 'pane 1 1 0 0;order 0 0 0 2 3;' = 1", "work 'break 0;' = 1", "order 0 5 = 0", "work 'day;' = 1", "order 0 5 = 0",
            "work 'day;' = 1", "order 0 5 = 3", "new", "street 'pane 2 1 0 0;order 0 0 0 1 3;' = 1", "work 'day;day;cell 0 0 0 1;' = 3",
            "order 0 5 = 0",
            "work 'cell 0 1 0 2;' = 1", "order 0 5 = 0", "work 'cell 0 0 0 1;' = 1", "order 0 5 = 3", "new",
            "street 'pane 1 1 0 0;order 0 0 0 1 3;rain 2 1;' = 1", "work 'day;' = 1", "order 0 5 = 0", "work 'day;' = 1", "order 0 5 = 3");
    }

    private static void costsAndViews() {
        of("Asked, nothing stays changed.",
            "street 'pane 2 2 3 1;rain 3 1;order 0 0 0 1 4;' = 1", "work 'day;day;cell 0 0 0 1;' = 3", "ahead 0 60 0 = 80",
            "decade 1 16 60 1 = 1", "span 1 20 16 60 0 0 = 0", "settles 0 0 0 = true", "view 0 51 0 = 1", "game 0 3 0 = 1",
            "cover 0 51 1 0 = 2", "look 0 0 = 1",
            "round 1 0 = 6", "by 1 6 = true", "told 3 = 2", "told 4 = 7", "told 5 = 1", "told 6 = 0", "told 8 = 0", "pane 0 5 = 0",
            "order 0 5 = 0", "count 2 = 1", "undo = 0");
        of("COST of a DAY for told CELLS of a PANE (bits: 4 Y and X): how many films are outside of that DAY's on them together.",
            "street 'pane 4 4 0 0;' = 1", "law '1' = 1", "work 'day;day;cell 0 3 3 1;' = 3", "law 'x%2' = 1", "work 'day;' = 1",
            "cost 0 1 1 = 1", "cost 0 1 2 = 0", "cost 0 2 1 = 2", "cost 0 2 2 = 1", "cost 0 2 3 = 0", "cost 0 32768 1 = 1",
            "cost 0 32768 3 = 0",
            "cost 0 32768 2 = -1", "cost 0 65535 1 = 23", "cost 0 32767 2 = 7", "cost 0 3 3 = -1", "cost 0 16 1 = 1", "cost 0 32 1 = 2");
        of("VIEW of told CELLS: the DAY that all have, of the least COST, of these the latest.",
            "street 'pane 2 1 0 0;' = 1", "work 'day;day;' = 2", "view 0 3 0 = 2", "view 0 3 1 = 0", "work 'cell 0 0 0 1;' = 1",
            "view 0 3 0 = 1", "view 0 3 1 = 1", "view 0 1 0 = 1", "view 0 2 0 = 2", "work 'cell 0 0 0 1;' = 1", "view 0 3 0 = -1",
            "view 0 3 1 = -1", "view 0 2 1 = 0");
    }

    private static void seams() {
        of("SEAMS: how many CELLS side by side (sideways or up) show unlike DAYS (bare ones, too).",
            ONE, "seams 0 = 0", "work 'day;' = 1", "seams 0 = 0", "new", FOUR, "seams 0 = 0", "work 'day;day;' = 2", "seams 0 = 0",
            "work 'cell 0 0 0 2;' = 1", "seams 0 = 2", "work 'cell 0 1 0 1;' = 1", "seams 0 = 3", "work 'cell 0 1 1 1;' = 1", "seams 0 = 3",
            "work 'cell 0 0 1 1;' = 1", "seams 0 = 2", "work 'wipe 0 9;' = 1", "seams 0 = 0",
            // a checkered PANE has a seam between each two: 4 rows of 3, 4 columns of 3
            "new", "street 'pane 4 4 0 0;' = 1", "law '(x+y)%2' = 1", "work 'day;' = 1", "seams 0 = 24", "law 'x' = 1", "work 'day;' = 1",
            "seams 0 = 7", "new", ROW, "law 'x%2' = 1", "work 'day;' = 1", "seams 0 = 3", "new", "street 'pane 1 4 0 0;' = 1",
            "law 'y%2' = 1",
            "work 'day;' = 1", "seams 0 = 3", "new", "street 'pane 3 2 0 0;' = 1", "law 'x/2' = 1", "work 'day;' = 1", "seams 0 = 2");
    }

    private static void tellsAndLook() {
        of("TELLS: wiping depths N (0 to 30) by which, were N films taken off each CELL of a PANE now (all, if there are fewer), it would show what the BOOK tells (by none, if a line tells a CELL that it has not).",
            
            "street 'pane 2 1 0 0;pane 1 2 0 0;hold 30;' = 2", "tells 0 = 2147483647", "pass 30 = 30", "book '0 0 0;' = 1",
            "tells 0 = 1073741824", "tells 1 = 1073741824", "book '0 0 30;' = 1", "tells 0 = 1", "book '0 0 1;' = 1", "tells 0 = 536870912",
            "book '0 0 31;' = 1", "tells 0 = 0",
            "work 'cell 0 1 0 28;' = 1", "book '1 0 0;' = 1", "tells 0 = 2147483644", "tells 1 = 0", "book '1 0 0;0 0 27;' = 2",
            "tells 0 = 8", "book '1 0 1;0 0 29;' = 2", "tells 0 = 2", "book '1 0 1;0 0 28;' = 2", "tells 0 = 0", "book '0 1 30;' = 1",
            "tells 0 = 0", "tells 1 = 1",
            "book '0 0 30;3 3 0;' = 2", "tells 0 = 0", "tells 1 = 0", "told 4 = 92");
        of("LOOK: of CELLS of that PANE that are in no line of the BOOK the one by which, whatever it shows, the fewest of these depths are left at the worst, of these the first.",
            
            "street 'pane 3 1 0 0;pane 1 1 0 0;hold 30;' = 2", "look 0 0 = 0", "look 0 1 = 31", "law 'x' = 1",
            "work 'day;day;day;cell 0 2 0 1;' = 4", "look 0 0 = 1", "look 0 1 = 28", "book '1 0 0;' = 1", "look 0 0 = 0", "look 0 1 = 28",
            "book '0 0 0;' = 1", "look 0 0 = 1", "look 0 1 = 28",
            "book '1 0 2;' = 1", "tells 0 = 2", "look 0 0 = 0", "look 0 1 = 1", "book '0 0 0;1 0 0;2 0 0;' = 3", "look 0 0 = -1",
            "look 0 1 = -1", "look 1 0 = -1", "book '0 0 9;' = 1", "tells 0 = 0", "look 0 0 = 1", "look 0 1 = 0", "book '3 3 0;' = 1",
            "look 0 0 = 0", "look 0 1 = 0",
            "new", "street 'pane 1 1 0 0;hold 30;' = 1", "pass 30 = 30", "look 0 1 = 1", "work 'wipe 0 1;' = 1", "look 0 1 = 2");
    }

    private static void covers() {
        of("COVER by R: the fewest circles (4 at most) in which all told CELLS of a PANE are, of alike ones the first (their CELLS rising, CELL by CELL).",
            
            "street 'pane 4 4 0 0;pane 2 1 0 0;' = 2", "cover 0 0 0 0 = 0", "cover 0 1 0 0 = 1", "cover 0 1 0 1 = 0",
            "cover 0 32768 0 1 = 15", "cover 0 32768 6 1 = 0", "cover 0 32768 5 1 = 1", "cover 0 51 0 0 = 4", "cover 0 51 0 1 = 325",
            "cover 0 55 0 0 = -1", "cover 0 55 0 1 = -1",
            // 0, 1, 4 and 5 by circles of 1: the middle 0 takes 0, 1, 4, so that 5 wants another, the first that takes it is 1
            "cover 0 51 1 0 = 2", "cover 0 51 1 1 = 1", "cover 0 51 2 0 = 1", "cover 0 51 2 1 = 0", "cover 0 36873 1 0 = 4",
            "cover 0 36873 1 1 = 651", "cover 1 3 0 1 = 1", "cover 1 3 1 1 = 0", "cover 0 65535 0 0 = -1", "cover 0 65535 1 0 = 4",
            "cover 0 65535 2 0 = 3", "cover 0 65535 3 0 = 2");
    }

    private static void games() {
        of("GAME by k: two wipe by turns 1 to k films off one CELL of a PANE, whichever they like; who takes the last of all wins.",
            ONE, "game 0 1 0 = 0", "game 0 30 1 = 0", "work 'day;' = 1", "game 0 1 0 = 1", "game 0 1 1 = 1", "game 0 30 0 = 1",
            "work 'day;' = 1", "game 0 1 0 = 0", "game 0 2 0 = 1", "work 'day;' = 1", "game 0 1 0 = 1", "game 0 2 0 = 0", "game 0 2 1 = 0",
            "game 0 3 0 = 1",
            "new", "street 'pane 2 1 0 0;' = 1", "work 'day;day;' = 2", "game 0 2 0 = 0", "work 'cell 0 1 0 1;' = 1", "game 0 1 0 = 1",
            "game 0 1 1 = 3", "game 0 2 0 = 1", "game 0 2 1 = 1",
            "new", "street 'pane 1 1 0 0;hold 30;' = 1", "pass 30 = 30", "game 0 30 0 = 1", "game 0 29 0 = 0", "game 0 28 0 = 1",
            "game 0 1 0 = 0");
    }

    private static void rounds() {
        of("ROUND of told ORDERS (bits): one begins at step 0, floor 0, and goes from PANE to PANE (A for each step, B for each floor up or down): all PANES of these ORDERS, each once: the fewest minutes; the first such row (PANE by PANE).",
            
            "street 'pane 1 1 0 0;pane 1 1 60 9;pane 1 1 60 0;pane 1 1 0 9;pane 1 1 30 5;" + "order 0 0 0 1 1;order 1 0 0 1 1;order 2 0 0 1 1;order 3 0 0 1 1;order 4 0 0 1 1;order 4 0 0 2 2;pace 9 9;' = 5",
            
            "round 0 0 = 0", "round 0 1 = 0", "round 1 0 = 0", "round 1 1 = 1", "round 2 0 = 621", "round 3 0 = 621", "round 3 1 = 12",
            "round 6 0 = 621", "round 6 1 = 32", "round 10 0 = 621", "round 10 1 = 42", "round 48 0 = 315", "round 48 1 = 5",
            "round 14 0 = 702", "round 14 1 = 423", "round 31 0 = 774", "round 31 1 = 14523");
        of("the first such row (PANE by PANE).",
            "street 'pane 1 1 7 0;pane 1 1 7 0;pane 1 1 0 0;order 1 0 0 1 1;order 0 0 0 1 1;order 2 0 0 1 1;' = 3", "round 3 0 = 7",
            "round 3 1 = 12", "round 7 0 = 7", "round 7 1 = 312", "round 5 1 = 32",
            // of two PANES left, either first: alike in minutes
            "street 'pane 1 1 5 2;pane 1 1 5 4;pane 1 1 6 3;order 0 0 0 1 1;order 1 0 0 1 1;order 2 0 0 1 1;pace 1 1;' = 3",
            "round 7 0 = 11", "round 7 1 = 123",
            "street 'pane 1 1 6 3;pane 1 1 5 2;pane 1 1 5 4;order 0 0 0 1 1;order 1 0 0 1 1;order 2 0 0 1 1;pace 1 1;' = 3",
            "round 7 0 = 11", "round 7 1 = 213");
    }

    private static void deadlines() {
        of("BY told minutes a DAY: whether in some such row each PANE is come to within the DAYS from now to T, both counted, of each of these ORDERS that is of it, so many minutes each.",
            
            "street 'pane 1 1 10 0;pane 1 1 12 0;order 0 0 0 1 1;order 1 0 0 1 1;order 1 0 0 2 2;order 0 0 0 1 4;' = 2", "by 1 5 = true",
            "by 1 4 = false", "by 8 2 = true", "by 8 1 = false", "by 9 4 = false", "by 9 5 = true", "by 3 6 = true", "by 3 5 = false",
            "by 4 4 = true", "by 4 3 = false",
            "by 6 5 = false", "by 6 6 = true", "work 'day;' = 1", "by 1 10 = true", "by 1 9 = false", "by 3 12 = true", "by 3 11 = false",
            "by 4 6 = true", "by 4 5 = false", "by 5 10 = true", "by 5 9 = false",
            // PANE 1 first, then back to PANE 0: 12 and 14 minutes
            "by 10 12 = true", "by 10 11 = false", "work 'day;' = 1", "by 1 999 = false", "by 4 12 = true", "by 4 11 = false",
            "by 12 12 = true",
            "new", "street 'pane 1 1 10 0;pane 1 1 12 0;order 0 0 0 1 2;order 1 0 0 1 1;' = 2", "work 'day;' = 1", "round 3 1 = 12",
            "by 3 12 = true", "by 3 11 = false");
    }

    private static void shares() {
        of("SHARES of N pence by CELLS of a PANE: by parts of how many films each has (cut; bare: 0; what is left by cutting goes to the first that has most).",
            
            "street 'pane 3 1 0 0;' = 1", "share 0 0 0 9999 = 0", "share 0 2 0 9999 = 0", "work 'day;' = 1", "share 0 0 0 10 = 4",
            "share 0 1 0 10 = 3", "share 0 2 0 10 = 3", "share 0 0 0 2 = 2", "share 0 1 0 2 = 0", "share 0 0 0 0 = 0", "share 0 0 0 9 = 3",
            "law 'x' = 1", "work 'day;' = 1", "share 0 0 0 9 = 1", "share 0 1 0 9 = 5", "share 0 2 0 9 = 3", "share 0 1 0 1 = 1",
            "share 0 2 0 1 = 0", "work 'cell 0 0 0 1;' = 1", "share 0 0 0 9 = 0", "share 0 1 0 9 = 5", "share 0 2 0 9 = 4",
            "law 'x/2' = 1", "work 'day;' = 1", "share 0 1 0 9 = 3", "share 0 2 0 9 = 6", "share 0 2 0 9999 = 6000",
            "share 0 1 0 9999 = 3999");
    }

    private static int draw(int[] seed) {
        seed[0] = (int) ((seed[0] & 0xFFFFFFFFL) * 1103515245L + 12345L);
        return (seed[0] >>> 16 & 0x7FFF) % 16;
    }

    private static void decades() {
        of("A DECADE by a SEED: for so many DAYS: DRAW by 16 below Q, PANE by PANE that is not BROKEN: it is BROKEN; then day.",
            "street 'pane 1 1 0 0;pane 1 1 0 0;rain 3 1;' = 2", "decade 7 0 5 1 = 0", "decade 7 0 5 0 = 8", "decade 7 0 5 2 = 2",
            "decade 7 16 5 1 = 2", "decade 7 16 5 0 = 0", "decade 7 16 5 2 = 0", "work 'day;day;' = 2", "decade 7 16 1 2 = 0",
            "decade 7 0 1 2 = 2");
        doc.quote("Terms",
            "DRAW: the SEED (32 bits) becomes itself times 1,103,515,245, and 12,345 (it wraps); its bits 16 to 30, what is left of them.");
        for (int s : new int[] {0, 1, -1, 2, 99, 65536, Integer.MAX_VALUE, Integer.MIN_VALUE}) {
            for (int q = 1; q <= 15; q += 2) {
                decadeOfThree(s, q, 4);
            }
        }
    }

    /** Three PANES of one CELL, the second BROKEN already: it has no DRAW. */
    private static void decadeOfThree(int s, int q, int days) {
        int[] seed = {s};
        boolean[] broken = {false, true, false};
        int washed = 0;
        int[] films = {1, 0, 1};
        for (int d = 2; d < 2 + days; d++) {
            for (int p = 0; p < 3; p++) {
                if (!broken[p] && draw(seed) < q) {
                    broken[p] = true;
                    films[p] = 0;
                }
            }
            for (int p = 0; p < 3; p++) {
                int off = d == 3 ? Math.min(1, films[p]) : 0;
                washed += off;
                films[p] += (broken[p] ? 0 : 1) - off;
            }
        }
        int all = (broken[0] ? 1 : 0) + 1 + (broken[2] ? 1 : 0);
        String call = " " + s + " " + q + " " + days + " ";
        Script.run("Terms: DRAW by " + s + " below " + q, "street 'pane 1 1 0 0;pane 1 1 0 0;pane 1 1 0 0;rain 3 1;' = 3",
            "work 'day;break 1;' = 2", "decade" + call + "0 = " + (films[0] + films[2]),
            "decade" + call + "1 = " + all, "decade" + call + "2 = " + washed,
            "span " + s + " 1 " + q + " " + days + " 2 2 = " + (broken[2] ? 0 : 1), "span " + s + " 1 " + q + " " + days + " 2 1 = 0");
    }
}
