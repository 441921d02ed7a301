/** The edges that promises 14 to 32 name: trips, what a plan is, trips to be put in. */
public final class PlanEdgeTest extends Edges {
    private static final String TWELVE = "plan 'a0@0;a0@1;a0@2;a0@3;a0@4;a0@5;a0@6;a0@7;a0@8;a0@9;a0@10;a0@11' = 12";
    private static final String ELEVEN = "plan 'a0@0;a0@1;a0@2;a0@3;a0@4;a0@5;a0@6;a0@7;a0@8;a0@9;a0@10' = 11";
    private static final String TEN = "plan 'a0@0;a0@1;a0@2;a0@3;a0@4;a0@5;a0@6;a0@7;a0@8;a0@9' = 10";

    public static void main(String[] args) {
        may();
        mayWatched();
        go();
        pair();
        pairRefused();
        strike();
        shift();
        afternoonActs();
        afternoonTexts();
        afternoonSixty();
        undo();
        undoForgets();
        undoneAhead();
        alone();
        bench();
        worthAndStays();
        stuck();
        hands();
        earliestAndLatest();
        best();
        most();
        open();
        mend();
        minutesAbove63();
        finish();
    }

    private static void may() {
        edge(14, "NONE: others, of PEOPLE, of ERRANDS", "may 0 0 0 = -1", "station 'p;p;e01@0-99' = 3", "may 0 0 0 = 0",
            "may 1 0 0 = 0", "may 2 0 0 = -1", "may -1 0 0 = -1", "may 0 1 0 = -1", "may 0 -1 0 = -1", "may MAX 0 0 = -1",
            "may 0 MIN 0 = -1");
        edge(14, "from a MINUTE (0 .. 99) on", "station 'p;p;e01@0-99' = 3", "may 0 0 -1 = -1", "may 0 0 0 = 0",
            "may 0 0 59 = 0", "may 0 0 60 = 1", "may 0 0 99 = 1", "may 0 0 100 = -1", "may 0 0 MAX = -1", "may 0 0 MIN = -1");
        String station = "station 'p;p;p!;e01@0-40+;e01@0-40+;e01@0-40' = 6";
        String twelve = "plan 'a0@0;a0@1;a0@2;a0@3;a0@4;a0@5;a0@6;a0@7;a0@8;a0@9;b2@30;c2@30' = 12";
        edge(14, "7: there are 12 TRIPS (asked last)", station, twelve, "may 0 0 60 = 1", "may 0 0 40 = 2", "may 0 0 9 = 3",
            "may 1 1 9 = 4", "may 2 2 20 = 5", "may 0 2 30 = 6", "may 0 2 31 = 7", "may 0 2 100 = -1", "may 3 2 31 = -1",
            "strike 0 = 11", "may 0 2 31 = 0");
        edge(14, "0: one may, with 11 TRIPS", "station 'p;p;e01@0-99' = 3", ELEVEN, "may 0 0 20 = 0", "go 0 0 20 = 12",
            "may 0 0 21 = 7");
        edge(14, "(5) ahead of 6", "station 'p!;e01@0-99' = 2", "may 0 0 5 = 5");
        edge(14, "may() asks of the new TRIP alone", "station 'p;p;p;e01@0-99+;e03@0-99+' = 5", "plan 'a0@5;b1@4' = 2",
            "trip 0 5 = 4", "may 2 0 20 = 0");
    }

    private static void mayWatched() {
        edge(14, "6: the bags would not be WATCHED: the last one at the bench", "station 'p;e02@0-99;e02@0-99^;e12@0-99^' = 4",
            "may 0 0 0 = 6", "may 0 1 0 = 0", "may 0 2 0 = 6");
        edge(14, "6: in some MINUTE: the first, the last of another's TRIP", "station 'p;p;e12@0-99' = 3", "plan 'b0@10' = 1",
            "may 0 0 6 = 0", "may 0 0 7 = 6", "may 0 0 10 = 6", "may 0 0 13 = 6", "may 0 0 14 = 0");
        edge(14, "6: another SEES them for some MINUTES", "station 'p;p;e12@0-99;e35@0-99^' = 4", "plan 'b1@10' = 1",
            "may 0 0 12 = 6", "may 0 0 13 = 0", "may 0 0 14 = 0", "may 0 0 15 = 6", "may 0 0 6 = 0", "may 0 0 7 = 6",
            "may 0 0 20 = 6", "may 0 0 21 = 0");
        edge(14, "6: both SEE them, one behind the other", "station 'p;p;e12@0-99;e35@0-99^' = 4", "plan 'b1@10' = 1",
            "may 0 1 12 = 6", "may 0 1 13 = 0", "may 0 1 15 = 0", "may 0 1 16 = 6");
        edge(14, "in which they are now: MINUTES without anybody ask nothing", "station 'p;p;e12@0-99' = 3",
            "plan 'a0@40;b0@40' = 2", "alone = 4 | 40 4 40", "may 0 0 36 = 0", "may 0 0 44 = 0", "may 0 0 37 = 3");
        edge(14, "6: a third", "station 'p;p;p;e12@0-99' = 4", "plan 'a0@40;b0@42' = 2", "may 2 0 38 = 0", "may 2 0 39 = 6",
            "may 2 0 43 = 6", "may 2 0 44 = 0", "may 2 0 46 = 0");
        edge(14, "6: of six", "station 'p;p;p;p;p;p;e01@0-99' = 7", "plan 'a0@5;b0@5;c0@5;d0@5' = 4", "may 4 0 5 = 0",
            "go 4 0 5 = 5", "may 5 0 5 = 6", "may 5 0 4 = 0", "may 5 0 6 = 0");
    }

    private static void go() {
        edge(15, "A TRIP is put in, if may() tells 0: how many there are", "station 'p;p;e01@0-99;e12@0-99' = 4",
            "go 1 1 7 = 1", "trip 0 0 = 1", "trip 0 1 = 1", "trip 0 2 = 7", "go 0 0 0 = 2", "trip 1 0 = 0", "count 3 = 2");
        String station = "station 'p;p;p!;e01@0-40+;e01@0-40+;e01@0-40' = 6";
        edge(15, "-2: it does not, for (1) .. (5) and 6", station, "plan 'a0@9;b2@30;c2@30' = 3", "go 0 0 60 = -2",
            "go 0 0 40 = -2", "go 0 0 9 = -2", "go 1 1 9 = -2", "go 2 2 20 = -2", "go 0 2 30 = -2", "count 3 = 3",
            "go 0 2 31 = 4");
        edge(15, "-2: it does not, for 7", "station 'p;p;e01@0-99' = 3", TWELVE, "go 0 0 20 = -2", "count 3 = 12");
        edge(15, "NONE: others", "station 'p;p;e01@0-99' = 3", "go 2 0 0 = -1", "go -1 0 0 = -1", "go 0 1 0 = -1",
            "go 0 -1 0 = -1", "go 0 0 -1 = -1", "go 0 0 100 = -1", "go 0 0 99 = -2", "go MAX 0 0 = -1", "go 0 MIN 0 = -1",
            "go 0 0 MIN = -1", "count 3 = 0", TWELVE, "go 2 0 0 = -1");
    }

    private static void pair() {
        String station = "station 'p;p;p!;p!;p;e12@0-60+;e12@0-60+;e01@0-60' = 8";
        edge(16, "both TRIPS are put in, the first one's first: how many there are", station, "pair 1 0 1 7 = 2",
            "trip 0 0 = 1", "trip 1 0 = 0", "trip 0 1 = 1", "trip 1 1 = 1", "trip 0 2 = 7", "trip 1 2 = 7", "count 3 = 2");
        edge(16, "SHY ones go together", station, "pair 2 3 0 5 = 2", "pair 2 0 0 20 = 4", "pair 0 3 0 30 = 6");
        edge(16, "if both are LAWFUL: the first is away, the second is", station, "plan 'a2@6' = 1", "pair 0 1 0 5 = -2",
            "pair 1 0 0 5 = -2", "pair 1 4 0 5 = 3", "count 3 = 3");
        edge(16, "if both are LAWFUL: (1) and (2)", "station 'p;p;p;e12@10-99' = 4", "pair 0 1 0 8 = -2", "pair 0 1 0 57 = -2",
            "pair 0 1 0 99 = -2", "pair 0 1 0 9 = 2", "pair 0 1 0 56 = 4");
        edge(16, "if both are LAWFUL: (4)", station, "plan 'e1@5' = 1", "pair 0 1 0 5 = -2", "pair 0 1 1 6 = -2",
            "pair 0 1 0 8 = -2", "pair 0 1 1 5 = 3", "pair 0 1 0 9 = 5");
        edge(16, "from MINUTE 0 on", station, "pair 0 1 0 0 = 2", "trip 1 2 = 0");
        edge(16, "the bags are WATCHED in all MINUTES in which they are now", "station 'p;p;e02@0-60;e02@0-60^;e12@0-60^' = 5",
            "pair 0 1 0 5 = -2", "pair 0 1 2 5 = -2", "count 3 = 0", "pair 0 1 1 5 = 2");
        edge(16, "a third at the bench, or for some MINUTES", "station 'p;p;p;e02@0-60;e34@0-60^' = 5", "pair 0 1 0 5 = 2",
            "plan 'c1@10' = 1", "pair 0 1 0 8 = 3", "pair 0 1 0 12 = -2", "pair 0 1 0 13 = 5", "pair 0 1 0 15 = 7",
            "pair 0 1 0 17 = -2", "pair 0 1 0 20 = 9");
        edge(16, "MINUTES in which they are not WATCHED now ask nothing", "station 'p;p;e02@0-60;e02@0-60^' = 4",
            "plan 'a0@40;b0@40' = 2", "pair 0 1 0 20 = -2", "pair 0 1 1 20 = 4");
        edge(16, "there is room: for both", "station 'p;p;p;e01@0-99' = 4", TEN, "pair 0 1 0 20 = 12", "trip 11 0 = 1",
            "pair 0 1 0 30 = -2", "strike 0 = 11", "pair 0 1 0 30 = -2", "count 3 = 11", "strike 0 = 10", "pair 0 1 0 30 = 12");
    }

    private static void pairRefused() {
        String station = "station 'p;p;p;e01@0-99' = 4";
        edge(16, "NONE: others, not unlike ones", station, "pair 0 0 0 5 = -1", "pair 2 2 0 5 = -1", "count 3 = 0");
        edge(16, "NONE: others, of PEOPLE", station, "pair 3 0 0 5 = -1", "pair 0 3 0 5 = -1", "pair -1 0 0 5 = -1",
            "pair 0 -1 0 5 = -1", "pair MAX 0 0 5 = -1", "pair 0 MIN 0 5 = -1", "pair 2 1 0 5 = 2");
        edge(16, "NONE: others, of ERRANDS, MINUTES", station, "pair 0 1 1 5 = -1", "pair 0 1 -1 5 = -1", "pair 0 1 0 -1 = -1",
            "pair 0 1 0 100 = -1", "pair 0 1 0 99 = -2", "pair 0 1 0 MAX = -1", "pair 0 1 MIN 5 = -1", "count 3 = 0");
        edge(16, "NONE: others, without room", station, TWELVE, "pair 0 0 0 20 = -1", "pair 0 3 0 20 = -1",
            "pair 0 1 0 20 = -2");
    }

    private static void strike() {
        String station = "station 'p;p;e01@0-99' = 3";
        edge(17, "TRIP i is struck: how many are left", station, "plan 'a0@1;a0@2;b0@3;a0@4' = 4", "strike 1 = 3",
            "trip 0 2 = 1", "trip 1 2 = 3", "trip 1 0 = 1", "trip 2 2 = 4", "strike 2 = 2", "trip 1 2 = 3", "strike 0 = 1",
            "trip 0 2 = 3", "strike 0 = 0", "count 3 = 0");
        edge(17, "the first, the last of 12", station, TWELVE, "strike 11 = 11", "trip 10 2 = 10", "strike 0 = 10",
            "trip 0 2 = 1", "trip 9 2 = 10", "trip 10 2 = !");
        edge(17, "Refused: none such", station, "strike 0 = -1", "plan 'a0@1;a0@2' = 2", "strike 2 = -1", "strike -1 = -1",
            "strike MAX = -1", "strike MIN = -1", "count 3 = 2", TWELVE, "strike 12 = -1", "count 3 = 12");
    }

    private static void shift() {
        String station = "station 'p;p;e12@5-30+;e32@0-60' = 4";
        edge(18, "later; earlier: below 0: its first MINUTE", station, "plan 'a0@10' = 1", "shift 0 3 = 13", "trip 0 2 = 13",
            "shift 0 -5 = 8", "trip 0 2 = 8", "shift 0 0 = 8");
        edge(18, "(-99 .. 99)", "station 'p;p;e01@0-99' = 3", "train 99 = 60", "plan 'a0@99' = 1", "shift 0 -100 = -1",
            "shift 0 -99 = 0", "shift 0 100 = -1", "shift 0 99 = -2", "shift 0 98 = 98", "shift 0 MAX = -1", "shift 0 MIN = -1",
            "trip 0 2 = 98");
        edge(18, "-2: it would begin below 0", "station 'p;p;e01@0-99' = 3", "plan 'a0@5' = 1", "shift 0 -6 = -2",
            "trip 0 2 = 5", "shift 0 -5 = 0", "shift 0 -1 = -2", "shift 0 -99 = -2", "trip 0 2 = 0");
        edge(18, "-2: it would begin above 99", "station 'p;p;e01@0-99' = 3", "train 99 = 60", "plan 'a0@98' = 1",
            "shift 0 1 = -2", "shift 0 2 = -2", "shift 0 99 = -2", "trip 0 2 = 98");
        edge(18, "-2: or would not be LAWFUL: (1), (2)", station, "plan 'a0@4;b1@52' = 2", "shift 0 -1 = -2", "shift 0 23 = 27",
            "shift 0 1 = -2", "shift 1 1 = -2", "trip 0 2 = 27", "trip 1 2 = 52");
        edge(18, "-2: or would not be LAWFUL: (3), (4), (5)", "station 'p;p!;p;e12@0-60+;e12@0-60' = 5",
            "plan 'a0@10;a1@20;b0@10;c0@30' = 4", "shift 0 7 = -2", "shift 0 17 = -2", "shift 2 1 = -2", "shift 3 -17 = -2",
            "shift 3 -16 = 14", "trip 0 2 = 10", "trip 2 2 = 10");
        edge(18, "its own MINUTES do not hinder it", station, "plan 'a0@10' = 1", "shift 0 1 = 11", "shift 0 -1 = 10");
        edge(18, "one that is not LAWFUL", station, "plan 'a0@0' = 1", "shift 0 0 = -2", "shift 0 3 = -2", "shift 0 4 = 4",
            "shift 0 0 = 4");
        edge(18, "to the others' company", "station 'p;p!;p;e12@0-60+' = 4", "plan 'a0@10;c0@20' = 2", "shift 1 -10 = 10",
            "shift 1 -1 = -2");
        edge(18, "others may become not LAWFUL", "station 'p;p!;p;e12@0-60' = 4", "plan 'a0@10;b0@10' = 2", "shift 0 5 = 15",
            "trip 1 5 = 5");
        edge(18, "NONE: others", station, "shift 0 0 = -1", "plan 'a0@10' = 1", "shift 1 0 = -1", "shift -1 0 = -1",
            "shift MAX 0 = -1", "shift MIN 0 = -1", "shift 1 -50 = -1", "shift 0 100 = -1", "trip 0 2 = 10");
        edge(18, "(Whether the bags are WATCHED is not asked.)", "station 'p;p;e12@0-60' = 3", "plan 'a0@10;b0@20' = 2",
            "shift 1 -10 = 10", "alone = 4 | 10 4 10");
    }

    private static void acts(String sentence, String... rows) {
        String[] all = new String[3 + rows.length];
        all[0] = "station 'p;p;e12@0-60;e01@0-60' = 4";
        all[1] = "wishes '32' 0 = 2";
        all[2] = "wishes '41' 1 = 2";
        System.arraycopy(rows, 0, all, 3, rows.length);
        edge(19, sentence, all);
    }

    private static void afternoonActs() {
        acts("an empty one: nothing", "afternoon '' = 0 | 0 0", "count 5 = 0", "plan 'a0@5' = 1", "afternoon '' = 0 | 0 3",
            "count 5 = 1");
        acts("g, a letter, a digit, @, a number: go()", "afternoon 'ga0@5' = 1 | 0 3", "trip 0 0 = 0", "trip 0 1 = 0",
            "trip 0 2 = 5", "afternoon 'gb1@0;gb1@59;gb0@07' = 2 | 1 5", "trip 1 2 = 0", "trip 2 2 = 59",
            "afternoon 'gb0@9' = 1 | 0 9");
        acts("x and a number: strike()", "plan 'a0@5;b0@20;a1@30' = 3", "afternoon 'x1' = 1 | 0 5", "trip 1 2 = 30",
            "afternoon 'x00;x0' = 2 | 0 0");
        acts("x and a number of 2 digits", "plan 'a1@0;a1@1;a1@2;a1@3;a1@4;a1@5;a1@6;a1@7;a1@8;a1@9;a1@10;a1@11' = 12",
            "afternoon 'x12' = 0 | 1 24", "afternoon 'x11;x10' = 2 | 0 20", "trip 9 2 = 9");
        acts("s, a number, + or -, a number: shift()", "plan 'a0@5;b0@20' = 2", "afternoon 's0+3' = 1 | 0 7", "trip 0 2 = 8",
            "afternoon 's1-12;s01+01' = 2 | 0 7", "trip 1 2 = 9", "afternoon 's0+0;s0-0;s0+00' = 3 | 0 7", "trip 0 2 = 8",
            "afternoon 's0-8' = 1 | 0 7", "trip 0 2 = 0");
        acts("s with 99", "plan 'a1@99' = 1", "afternoon 's0-99' = 1 | 0 2", "trip 0 2 = 0", "afternoon 's0+99' = 0 | 1 2");
        acts("till one is refused: how many were done; 1 if one was refused", "afternoon 'ga0@5;ga0@6;ga1@20' = 1 | 1 3",
            "count 3 = 1", "afternoon 'x0;x0;ga0@5' = 1 | 1 0", "count 3 = 0", "afternoon 'ga0@5;gb1@9;s1-10;x0' = 2 | 1 4",
            "count 3 = 2", "trip 1 2 = 9");
        acts("the first is refused", "afternoon 'x0;ga0@5' = 0 | 1 0", "count 3 = 0", "afternoon 's0+1;ga0@5' = 0 | 1 0",
            "afternoon 'ga0@57' = 0 | 1 0", "count 5 = 0");
        acts("the last is refused", "afternoon 'ga0@5;x1' = 1 | 1 3", "count 3 = 1");
        acts("one who is not there, an ERRAND that is not there: refused, when it comes to that",
            "afternoon 'ga1@5;gc0@20;x0' = 1 | 1 2", "afternoon 'x0;ga2@5' = 1 | 1 0", "afternoon 'gf9@99' = 0 | 1 0",
            "count 3 = 0");
        acts("one that is not there when it is told, but when it comes to that", "afternoon 'ga0@5;s0+1;x0;ga1@0' = 4 | 0 2",
            "count 3 = 1");
        acts("a thirteenth TRIP", "plan 'a1@0;a1@1;a1@2;a1@3;a1@4;a1@5;a1@6;a1@7;a1@8;a1@9;a1@10' = 11",
            "afternoon 'ga1@20;ga1@21;x0' = 1 | 1 24", "count 3 = 12");
        acts("the sum of WORTHS then, by THE RULE", "rule '-w*z' = 0", "afternoon 'ga0@5;ga0@9;ga1@20' = 3 | 0 -3");
    }

    private static void afternoonTexts() {
        String[] early = {"g", "ga", "ga0", "ga0@", "x", "s", "s1", "s12", "s1+", "s1-", "x0;", "x0;g", "ga0@1;", "s1+2;"};
        for (String t : early) {
            acts("its end, if it ends too early", "plan 'a0@5' = 1", "afternoon '" + t + "' = " + (-1 - t.length()),
                "count 3 = 1", "count 5 = 1");
        }
        String[] texts = {"y", ";", "G", "gg0@1", "g`0@1", "gA0@1", "gaa@1", "ga:@1", "ga/@1", "ga0;1", "ga0@x", "ga0@123",
            "ga0@1x", "xa", "x-1", "x123", "x1+", "g0@5", "ga@5", "ga05", "g@5", "sa", "s+1", "s123", "s1*2", "s1+x", "s1--2",
            "s1+123", "s1+2x", "x0,x0", "x0;;", "x0;y"};
        int[] places = {0, 0, 0, 1, 1, 1, 2, 2, 2, 3, 4, 6, 5, 1, 1, 3, 2, 1, 2, 3, 1, 1, 1, 3, 2, 3, 3, 5, 4, 2, 3, 3};
        for (int k = 0; k < texts.length; k++) {
            acts("-1 - p: the sign at p can't stand there; nothing is done then", "plan 'a0@5' = 1", "afternoon '" + texts[k]
                + "' = " + (-1 - places[k]), "count 3 = 1", "count 5 = 1");
        }
    }

    /** ACTS that change nothing, with a ; behind each, of n signs (20 and more). */
    private static String still(int n) {
        return signs(n, times(n / 5 - n % 5, "s0+0;", "") + times(n % 5, "s0+00;", ""));
    }

    private static void afternoonSixty() {
        String sixty = signs(60, still(55) + "s0+00");
        acts("60 signs", "plan 'a0@5' = 1", "afternoon '" + sixty + "' = 12 | 0 3");
        acts("60, if it has more and the first 60 could end", "plan 'a0@5' = 1", "afternoon '" + sixty + "x' = -61",
            "afternoon '" + sixty + ";' = -61", "afternoon '" + sixty + ";x0' = -61", "afternoon '" + signs(60, still(58)
            + "x0") + "1' = -61", "count 3 = 1", "count 5 = 1");
        for (String act : new String[] {"ga0@12", "x12", "s1+23", "s12-3"}) {
            for (int k = 0; k < act.length(); k++) {
                acts("60, if it has more and the first 60 could go on", "plan 'a0@5' = 1", "afternoon '" + signs(60,
                    still(60 - k) + act.substring(0, k)) + act.substring(k) + "' = -61", "afternoon '" + still(60 - k)
                    + act.substring(0, k) + "?' = -61", "count 3 = 1");
            }
        }
        acts("60 signs that could only go on: its end", "plan 'a0@5' = 1", "afternoon '" + still(60) + "' = -61", "afternoon '"
            + still(59) + "x' = -61");
        acts("more than 60, but one of the first 60 can't stand there", "plan 'a0@5' = 1", "afternoon '" + still(59)
            + "y0' = -60", "afternoon '" + still(58) + "xx0' = -60", "afternoon '" + still(57) + "x123' = -61", "afternoon '"
            + still(56) + "x123' = -60", "afternoon 'y" + still(70) + "' = -1", "count 3 = 1");
    }

    private static void undo() {
        String station = "station 'p;p;p;e01@0-99' = 4";
        edge(20, "Refused: none", station, "undo = -1", "go 0 0 5 = 1", "undo = 0", "undo = -1", "count 5 = 0");
        edge(20, "the latest plan()", station, "plan 'a0@1;b0@2' = 2", "plan '' = 0", "undo = 1", "count 3 = 2", "trip 1 2 = 2",
            "undo = 0", "count 3 = 0");
        edge(20, "the latest go()", station, "plan 'a0@1' = 1", "go 0 0 5 = 2", "undo = 1", "count 3 = 1", "trip 0 2 = 1");
        edge(20, "the latest pair()", station, "plan 'a0@1' = 1", "pair 0 1 0 5 = 3", "count 5 = 2", "undo = 1", "count 3 = 1");
        edge(20, "the latest strike(), the last TRIP, too", station, "plan 'a0@1;b0@2' = 2", "strike 0 = 1", "strike 0 = 0",
            "count 5 = 3", "undo = 2", "count 3 = 1", "trip 0 0 = 1", "undo = 1", "trip 0 0 = 0", "trip 1 0 = 1");
        edge(20, "the latest shift(), to MINUTE 0, by 0, too", station, "plan 'a0@5' = 1", "shift 0 -5 = 0", "shift 0 0 = 0",
            "count 5 = 3", "undo = 2", "trip 0 2 = 0", "undo = 1", "trip 0 2 = 5");
        edge(20, "afternoon() of which one ACT was done, as one", station, "afternoon 'ga0@1;ga0@2;s0+9;x0' = 4 | 0 1",
            "count 5 = 1", "undo = 0", "count 3 = 0");
        edge(20, "afternoon() of which one was done and one refused", station, "plan 'a0@1' = 1", "afternoon 'x0;x0' = 1 | 1 0",
            "count 5 = 2", "undo = 1", "count 3 = 1");
        edge(20, "afternoon() of which none was done", station, "plan 'a0@1' = 1", "afternoon 'x1' = 0 | 1 1",
            "afternoon '' = 0 | 0 1", "afternoon 'y' = -1", "count 5 = 1");
        edge(20, "such as were not refused", station, "plan 'a0@1' = 1", "plan 'x' = -1", "go 0 0 60 = -2", "go 0 1 5 = -1",
            "pair 0 0 0 5 = -1", "pair 0 1 0 1 = -2", "strike 1 = -1", "shift 0 -2 = -2", "shift 1 0 = -1", "count 5 = 1",
            "undo = 0", "count 3 = 0");
        edge(20, "how many are left that can be", station, "go 0 0 1 = 1", "go 0 0 2 = 2", "go 0 0 3 = 3", "undo = 2",
            "go 0 0 4 = 3", "undo = 2", "trip 1 2 = 2", "undo = 1", "undo = 0", "count 3 = 0");
        String[] rows = new String[1 + 17 + 1 + 2 * 15 + 1];
        rows[0] = station;
        for (int k = 0; k < 17; k++) {
            rows[1 + k] = "plan 'a0@" + k + "' = 1";
        }
        rows[18] = "count 5 = 15";
        for (int k = 0; k < 15; k++) {
            rows[19 + 2 * k] = "undo = " + (14 - k);
            rows[20 + 2 * k] = "trip 0 2 = " + (15 - k);
        }
        rows[49] = "undo = -1";
        edge(20, "of 15 that are kept, the latest ones", rows);
        String[] fifteen = new String[1 + 15 + 1 + 15 + 1];
        fifteen[0] = station;
        for (int k = 0; k < 15; k++) {
            fifteen[1 + k] = "plan 'a0@" + k + "' = 1";
            fifteen[17 + k] = "undo = " + (14 - k);
        }
        fifteen[16] = "count 5 = 15";
        fifteen[32] = "count 3 = 0";
        edge(20, "of 15 that are kept: the first of 15", fifteen);
    }

    private static void undoForgets() {
        String station = "station 'p;p;p;e01@0-99' = 4";
        edge(20, "station() forgets them", station, "go 0 0 5 = 1", "station 'p' = 1", "count 5 = 0", "undo = -1",
            "count 3 = 1");
        edge(20, "station() that is refused does not", station, "go 0 0 5 = 1", "station 'p;x' = -3", "count 5 = 1", "undo = 0",
            "count 3 = 0");
        edge(20, "an empty station() does not", station, "go 0 0 5 = 1", "station '' = 0", "count 5 = 1", "undo = 0",
            "count 3 = 0");
        edge(20, "again() forgets them", station, "go 0 0 5 = 1", "keep 0 = true", "go 0 0 6 = 2", "count 5 = 2",
            "again 0 = true", "count 5 = 0", "undo = -1", "count 3 = 1");
        edge(20, "again() that is refused does not", station, "go 0 0 5 = 1", "again 0 = false", "again 3 = false",
            "count 5 = 1", "undo = 0");
        edge(20, "wishes(), rule(), wish(), train(), sheet(), keep(), seen() neither forget nor are undone", station,
            "go 0 0 5 = 1", "wishes '7' 0 = 1", "rule 'w' = 0", "wish 1 0 3 = 1", "train 50 = 60", "sheet 2 1 2 0 = 2",
            "keep 0 = true", "seen 0 0 5 = 1", "count 5 = 1", "undo = 0", "count 2 = 50", "errand 0 1 = 2", "wish 0 0 7 = 7",
            "count 6 = 1");
    }

    private static void undoneAhead() {
        String[] calls = {"go 0 0 5 = 1", "pair 0 1 0 5 = 2", "afternoon 'ga0@5' = 1 | 0 1", "plan 'a0@5' = 1"};
        for (String call : calls) {
            edge(20, "THE PLAN is as ahead of it, not as ahead of one that was undone", "station 'p;p;p;e01@0-99' = 4",
                "plan 'a0@1;b0@2' = 2", "undo = 0", call, "undo = 0", "count 3 = 0");
        }
        String[] more = {"strike 0 = 0", "shift 0 1 = 8", "afternoon 'x0' = 1 | 0 0", "afternoon 's0+1' = 1 | 0 1"};
        for (String call : more) {
            edge(20, "THE PLAN is as ahead of it, behind again(), too", "station 'p;p;p;e01@0-99' = 4", "plan 'a0@7' = 1",
                "keep 0 = true", "plan 'a0@1;b0@2' = 2", "again 0 = true", call, "count 5 = 1", "undo = 0", "count 3 = 1",
                "trip 0 2 = 7");
        }
    }

    private static void alone() {
        String station = "station 'p;e03@0-60;e01@0-60' = 3";
        edge(21, "the first (NONE), the first MINUTE of that (NONE)", station, "alone = 0 | -1 0 -1", "plan 'a0@60' = 1",
            "alone = 0 | -1 0 -1");
        edge(21, "of as long ones the first", station, "plan 'a0@30;a0@10;a0@20' = 3", "alone = 9 | 10 3 10");
        edge(21, "the most of them one behind another", station, "plan 'a0@5;a0@10;a1@13' = 3", "alone = 7 | 5 4 10",
            "plan 'a0@5;a1@8;a0@20' = 3", "alone = 7 | 5 4 5");
        edge(21, "MINUTE 0, and till TRAIN", station, "plan 'a0@0' = 1", "alone = 3 | 0 3 0", "plan 'a0@58' = 1",
            "alone = 2 | 58 2 58", "plan 'a0@57' = 1", "alone = 3 | 57 3 57");
        edge(21, "by THE PLAN as it is now", "station 'p;e02@0-60^;e02@0-60' = 3", "plan 'a0@5' = 1", "alone = 0 | -1 0 -1",
            "plan 'a1@5' = 1", "alone = 2 | 5 2 5", "plan 'a0@5' = 1", "alone = 0 | -1 0 -1");
        edge(21, "without PEOPLE all", "alone = 60 | 0 60 0", "train 1 = 60", "alone = 1 | 0 1 0");
    }

    private static void bench() {
        String station = "station 'p;p;e12@0-60;e12@0-60^;e32@0-60' = 5";
        edge(22, "in a MINUTE (0 .. TRAIN - 1)", station, "bench -1 = -1", "bench 0 = 3 | 0 0", "bench 59 = 3 | 0 0",
            "bench 60 = -1", "train 61 = 60", "bench 60 = 3 | 0 0", "bench 61 = -1", "bench MAX = -1", "bench MIN = -1",
            "train 99 = 61", "bench 98 = 3 | 0 0", "bench 99 = -1");
        edge(22, "who SEES the bags from an ERRAND", station, "plan 'a1@5;b1@6' = 2", "bench 5 = 2 | 0 1", "bench 6 = 0 | 1 2",
            "bench 7 = 0 | 3 0", "bench 8 = 0 | 2 1", "bench 9 = 1 | 0 2");
        edge(22, "who is away, but at no ERRAND", station, "plan 'a0@5;b2@5' = 2", "bench 5 = 0 | 0 3", "bench 6 = 0 | 0 2",
            "bench 8 = 0 | 0 1", "bench 9 = 1 | 0 0", "bench 10 = 1 | 0 2", "bench 13 = 3 | 0 0");
        edge(22, "of one with several TRIPS at once: by all of them", station, "plan 'a1@5;a2@5' = 2", "bench 5 = 2 | 0 1",
            "bench 6 = 2 | 1 0", "bench 8 = 2 | 0 0", "bench 10 = 2 | 0 1", "plan 'a0@5;a1@5' = 2", "bench 6 = 2 | 1 0",
            "plan 'a0@5;a1@6' = 2", "bench 6 = 2 | 0 0", "bench 7 = 2 | 1 0", "bench 8 = 2 | 1 0", "bench 9 = 2 | 0 1");
        edge(22, "nobody", "bench 0 = 0 | 0 0");
        edge(22, "of six", "station 'p;p;p;p;p;p;e01@0-60^;e11@0-60' = 8", "plan 'f0@5;e1@5' = 2", "bench 5 = 15 | 32 16",
            "bench 6 = 47 | 0 0");
    }

    private static void worthAndStays() {
        String station = "station 'p;p;p;e01@0-99' = 4";
        edge(23, "how many TRIPS are not LAWFUL, the first of these (NONE)", station, "worth = 0 | 0 -1",
            "plan 'a0@1;b0@2' = 2", "worth = 2 | 0 -1", "plan 'a0@60;b0@2' = 2", "worth = 2 | 1 0",
            "plan 'a0@1;b0@60;c0@60' = 3", "worth = 3 | 2 1");
        edge(24, "-2: nobody is there", "stays = -2", "station 'e01@0-9' = 1", "stays = -2", "station 'p' = 1",
            "stays = 0 | 60 0 60");
        edge(24, "the most, of equal ones the first", station, "stays = 0 | 60 0 60", "plan 'a0@1' = 1", "stays = 1 | 60 0 59",
            "plan 'b0@1' = 1", "stays = 0 | 60 1 59", "plan 'a0@1;b0@1' = 2", "stays = 2 | 60 0 59");
        edge(24, "the fewest, of equal ones the first", station, "plan 'c0@1' = 1", "stays = 0 | 60 2 59",
            "plan 'b0@1;c0@1' = 2", "stays = 0 | 60 1 59", "plan 'a0@1;b0@1;c0@1;c0@2' = 4", "stays = 0 | 59 2 58");
        edge(24, "till TRAIN", station, "plan 'a0@60' = 1", "stays = 0 | 60 0 60", "train 61 = 60", "stays = 1 | 61 0 60",
            "train 1 = 61", "stays = 0 | 1 0 1");
    }

    private static void stuck() {
        String station = "station 'p;p;p;e03@0-99;e01@0-99' = 5";
        edge(25, "NONE, NONE for 0", "stuck = 0 | -1 -1", station, "stuck = 0 | -1 -1", "plan 'a0@5' = 1", "stuck = 0 | -1 -1",
            "plan 'a0@5;b0@5;c0@5' = 3", "stuck = 0 | -1 -1");
        edge(25, "who, from when", station, "plan 'a0@5;b0@5' = 2", "stuck = 3 | 2 5", "plan 'b0@5;c0@6' = 2",
            "stuck = 2 | 0 6");
        edge(25, "of as long ones the first", station, "plan 'a0@20;c0@20;a0@10;b0@10' = 4", "stuck = 3 | 2 10");
        edge(25, "a longer one behind it", station, "plan 'a0@0;b0@0;a0@10;c0@10;a1@13;c1@13' = 6", "stuck = 4 | 1 10");
        edge(25, "one and the same", station, "plan 'a0@0;b0@0;a0@3;c0@3' = 4", "stuck = 3 | 2 0",
            "plan 'a0@0;b0@0;a0@3;c0@3;a1@6;c1@6' = 6", "stuck = 4 | 1 3");
        edge(25, "and nobody else", station, "plan 'a0@0;b0@0;a0@4;b0@4' = 4", "stuck = 3 | 2 0",
            "plan 'a0@0;b0@0;a1@3;a0@4;b0@4' = 5", "stuck = 3 | 2 0");
        edge(25, "nobody at all is there between", "station 'p;p;e03@0-99' = 3", "plan 'a0@5;b0@7' = 2", "stuck = 2 | 1 5",
            "plan 'a0@5;b0@6' = 2", "stuck = 1 | 1 5");
        edge(25, "from MINUTE 0 on till TRAIN", "station 'p' = 1", "stuck = 60 | 0 0", "train 99 = 60", "stuck = 99 | 0 0",
            "train 1 = 99", "stuck = 1 | 0 0");
        edge(25, "till TRAIN", station, "plan 'a0@58;b0@58' = 2", "stuck = 2 | 2 58", "train 60 = 60", "plan 'a0@60;b0@60' = 2",
            "stuck = 0 | -1 -1");
    }

    private static void hands() {
        String station = "station 'p;p;e12@0-60+;e12@0-60*;e12@0-60' = 5";
        edge(26, "NONE: others", station, "hands 0 5 = -1", "hands 3 5 = -1", "hands -1 5 = -1", "hands 1 -1 = -1",
            "hands 1 60 = -1", "hands 2 MAX = -1", "hands MIN 5 = -1", "hands 1 0 = -2", "hands 2 59 = -2");
        edge(26, "the one who is away by a TRIP that needs it", station, "plan 'b0@5;a1@20;a2@30' = 3", "hands 1 4 = -2",
            "hands 1 5 = 1", "hands 1 8 = 1", "hands 1 9 = -2", "hands 2 5 = -2", "hands 2 19 = -2", "hands 2 20 = 0",
            "hands 2 23 = 0", "hands 2 24 = -2", "hands 1 20 = -2", "hands 1 30 = -2", "hands 2 30 = -2");
        edge(26, "(of several the first by TRIPS)", station, "plan 'b0@5;a0@5' = 2", "hands 1 5 = 1", "plan 'a0@6;b0@5' = 2",
            "hands 1 5 = 1", "hands 1 6 = 0", "hands 1 9 = 0");
        edge(26, "MINUTE 0, and till TRAIN", station, "plan 'a0@0;b0@57' = 2", "hands 1 0 = 0", "hands 1 59 = 1",
            "hands 1 60 = -1", "train 62 = 60", "hands 1 60 = 1", "hands 1 61 = -2", "hands 1 62 = -1");
        edge(26, "-2: it lies at the bench, with nobody there, too", "hands 1 0 = -2", "hands 2 0 = -2");
    }

    private static void earliestAndLatest() {
        String station = "station 'p;p;p!;e12@10-30;e01@0-99;e99@0-26' = 6";
        edge(27, "the MINUTE in which one is back", station, "earliest 0 0 = 9 | 13", "earliest 0 1 = 0 | 1",
            "earliest 1 0 = 9 | 13");
        edge(28, "The latest such MINUTE", station, "latest 0 0 = 27 | 31", "latest 0 1 = 59 | 60", "train 99 = 60",
            "latest 0 1 = 98 | 99", "latest 0 2 = 8 | 35", "train 34 = 99", "latest 0 2 = 7 | 34", "latest 0 0 = 27 | 31",
            "train 30 = 34", "latest 0 0 = 26 | 30");
        edge(27, "-2: none", station, "earliest 2 0 = -2", "train 12 = 60", "earliest 0 0 = -2", "train 13 = 12",
            "earliest 0 0 = 9 | 13", "train 26 = 13", "earliest 0 2 = -2", "train 27 = 26", "earliest 0 2 = 0 | 27");
        edge(28, "-2: likewise", station, "latest 2 0 = -2", "train 12 = 60", "latest 0 0 = -2", "train 13 = 12",
            "latest 0 0 = 9 | 13");
        edge(27, "-2: none, if there are 12 TRIPS", "station 'p;p;e01@0-99' = 3", TWELVE, "earliest 1 0 = -2",
            "latest 1 0 = -2", "strike 0 = 11", "earliest 1 0 = 0 | 1", "latest 1 0 = 59 | 60");
        edge(27, "NONE: others", station, "earliest 3 0 = -1", "earliest -1 0 = -1", "earliest 0 3 = -1", "earliest 0 -1 = -1",
            "earliest MAX 0 = -1", "earliest 0 MIN = -1");
        edge(28, "NONE: likewise", station, "latest 3 0 = -1", "latest -1 0 = -1", "latest 0 3 = -1", "latest 0 -1 = -1",
            "latest MAX 0 = -1", "latest 0 MIN = -1");
        edge(27, "may() lets one go: behind the other, between TRIPS, with company", station, "plan 'a1@0;b0@9;a1@20' = 3",
            "earliest 0 1 = 1 | 2", "earliest 2 0 = 9 | 13", "latest 2 0 = 9 | 13", "earliest 0 0 = 9 | 13",
            "earliest 2 1 = 0 | 1", "latest 2 1 = 20 | 21", "earliest 1 0 = 13 | 17");
        edge(27, "may() lets one go: not while the bags are alone", "station 'p;p;e12@0-99' = 3", "plan 'b0@0;b0@7' = 2",
            "earliest 0 0 = 11 | 15", "shift 1 1 = 8", "earliest 0 0 = 4 | 8");
        edge(28, "may() lets one go: not while the bags are alone", "station 'p;p;e12@0-99' = 3", "plan 'b0@56' = 1",
            "latest 0 0 = 52 | 56", "plan 'b0@56;b0@51' = 2", "latest 0 0 = 47 | 51");
        edge(27, "at a closed ERRAND", "station 'p;p;e11@5-5;e01@99-99;e91@0-5' = 5", "earliest 0 0 = -2", "latest 0 0 = -2",
            "earliest 0 1 = -2", "latest 0 1 = -2", "earliest 0 2 = -2", "latest 0 2 = -2");
    }

    private static void best() {
        String station = "station 'p;p;p!;e12@0-60;e01@0-60;e01@0-60;e03@0-60' = 7";
        edge(29, "the most WORTH", station, "wishes '3213' 0 = 4", "best 0 = 3 | 0 3", "wish 0 0 4 = 3", "best 0 = 0 | 0 4",
            "wish 0 2 9 = 1", "best 0 = 2 | 0 9");
        edge(29, "of as good ones the one from which one is back the soonest", station, "wishes '5115' 0 = 4",
            "best 0 = 3 | 0 5", "wish 0 1 5 = 1", "best 0 = 1 | 0 5");
        edge(29, "back the soonest, not off the soonest", "station 'p;p;e09@0-60;e01@5-60;e03@5-60' = 5", "best 0 = 1 | 5 1",
            "sheet 2 3 6 -2 = 12", "best 0 = 0 | 0 1");
        edge(29, "then the first", station, "best 0 = 1 | 0 1", "best 1 = 1 | 0 1");
        edge(29, "-2: for none", station, "best 2 = -2", "plan 'a0@5' = 1", "best 2 = 0 | 5 1", TWELVE, "best 0 = -2");
        edge(29, "at its earliest() now", "station 'p;p;e01@0-60' = 3", "best 0 = 0 | 0 1", "plan 'a0@0' = 1",
            "best 0 = 0 | 1 1", "plan 'b0@0;b0@1' = 2", "best 0 = 0 | 2 1");
        edge(29, "-2: without ERRANDS", "station 'p;p' = 2", "best 0 = -2");
        edge(29, "NONE: none such", "best 0 = -1", station, "best 3 = -1", "best -1 = -1", "best MAX = -1", "best MIN = -1");
        edge(29, "WORTH (as in THE PLAN with it)", station, "rule 'n*5-z*3' = 0", "plan 'b0@0;a1@20' = 2", "best 0 = 0 | 0 5",
            "strike 0 = 1", "best 0 = 2 | 0 0");
        edge(29, "the most WORTH, below 0", station, "rule '-w-5' = 0", "wishes '1203' 0 = 4", "best 0 = 2 | 0 -5",
            "rule '-999' = 0", "best 0 = 1 | 0 -999");
    }

    private static void most() {
        String station = "station 'p;p;e01@0-60;e01@0-60' = 4";
        edge(30, "NONE: another n", station, "most -1 = -1", "most 3 = -1", "most MAX = -1", "most MIN = -1");
        edge(30, "n TRIPS or fewer (0 .. 2)", station, "most 0 = 0 |", "most 1 = 1 | 0 0 0", "most 2 = 2 | 0 0 0 0 0 1");
        edge(30, "how much (0 at least)", station, "rule '-w' = 0", "most 1 = 0 |", "most 2 = 0 |", "rule '0' = 0",
            "most 2 = 0 |");
        edge(30, "nobody, no ERRANDS", "most 2 = 0 |", "station 'p;p' = 2", "most 2 = 0 |");
        edge(30, "of as good ones the fewest TRIPS", station, "rule 'w*(1-z)' = 0", "wishes '50' 0 = 2", "wishes '00' 1 = 2",
            "most 1 = 5 | 0 0 0", "most 2 = 5 | 0 0 0");
        edge(30, "then the least row: who, ERRAND, MINUTE", station, "wishes '12' 0 = 2", "wishes '21' 1 = 2",
            "most 1 = 2 | 0 1 0", "most 2 = 4 | 0 1 0 0 1 1", "wishes '22' 0 = 2", "most 1 = 2 | 0 0 0",
            "most 2 = 4 | 0 0 0 0 0 1");
        edge(30, "the last one, the last ERRAND", station, "wishes '00' 0 = 2", "wishes '03' 1 = 2", "most 1 = 3 | 1 1 0",
            "most 2 = 6 | 1 1 0 1 1 1");
        edge(30, "each at its earliest() then", "station 'p;p;e12@0-60;e03@5-99' = 4", "wishes '59' 0 = 2",
            "most 1 = 9 | 0 1 5", "most 2 = 18 | 0 1 5 0 1 8", "rule 'w*(1-z)' = 0", "most 2 = 14 | 0 0 0 0 1 5");
        edge(30, "the sum of WORTHS: of those in THE PLAN, too", "station 'p;p;p;e01@0-60' = 4", "rule 'n' = 0", "most 1 = 0 |",
            "most 2 = 2 | 0 0 0 1 0 0", "plan 'c0@0' = 1", "most 1 = 2 | 0 0 0", "most 2 = 2 | 0 0 0", "rule '-n' = 0",
            "most 2 = 0 |");
        edge(30, "one below 0, and another more than that above", "station 'p;p;p;e01@0-60' = 4", "rule '(n>0)*5-1' = 0",
            "most 1 = 0 |", "most 2 = 8 | 0 0 0 1 0 0");
        edge(30, "put in one behind another: a SHY one behind another one", "station 'p!;p;p;e01@0-60' = 4", "wishes '9' 0 = 1",
            "most 1 = 1 | 1 0 0", "most 2 = 10 | 1 0 0 0 0 0");
        edge(30, "a second TRIP from MINUTE 0 on, by the first one", "station 'p!;p;p;e01@0-60' = 4", "rule '(i=0)*n*9' = 0",
            "most 2 = 9 | 1 0 0 0 0 0");
        edge(30, "room for one, for none", station, ELEVEN, "most 2 = 1 | 0 0 11", "most 1 = 1 | 0 0 11", TWELVE,
            "most 2 = 0 |");
        edge(30, "of six, of eight", "station 'p;p;p;p;p;p;" + times(8, "e01@0-9", ";") + "' = 14", "most 2 = 2 | 0 0 0 0 0 1",
            "wish 5 7 9 = 1", "most 1 = 9 | 5 7 0", "most 2 = 18 | 5 7 0 5 7 1", "rule 'w*(1-z)' = 0",
            "most 2 = 10 | 0 0 0 5 7 0", "best 5 = 7 | 0 9", "open = 255 | 0", "earliest 5 7 = 0 | 1", "latest 5 7 = 8 | 9",
            "stays = 0 | 60 0 60", "stuck = 0 | -1 -1", "alone = 0 | -1 0 -1", "mend = 0 |");
        edge(30, "the second can't go", "station 'p;p;e01@0-1;e09@0-60' = 4", "train 9 = 60", "wishes '50' 0 = 2",
            "wishes '60' 1 = 2", "rule 'w-(w=0)' = 0", "most 1 = 6 | 1 0 0", "most 2 = 6 | 1 0 0");
    }

    private static void open() {
        String station = "station 'p;p!;e01@0-60;e12@0-60;e01@5-5;e99@0-60' = 6";
        edge(31, "for which nobody goes, and for which somebody may go", station, "open = 11 | 4", "plan 'a1@5' = 1",
            "open = 9 | 4");
        edge(31, "for which nobody goes or may", station, "train 26 = 60", "open = 3 | 12", "train 1 = 26", "open = 1 | 14");
        edge(31, "one who goes, LAWFUL or not, goes", station, "plan 'b0@5;a2@5;a3@60' = 3", "open = 2 | 0");
        edge(31, "the last one may, the first may not", "station 'p!;p;p;e01@0-60' = 4", "open = 1 | 0");
        edge(31, "nobody may, with 12 TRIPS", "station 'p;p;e01@0-60;e01@0-60' = 4", ELEVEN, "open = 2 | 0", TWELVE,
            "open = 0 | 2");
        edge(31, "of eight", "station 'p;p;" + times(8, "e01@0-9", ";") + "' = 10", "open = 255 | 0", "go 0 7 0 = 1",
            "open = 127 | 0");
        edge(31, "nobody, no ERRANDS", "open = 0 | 0", "station 'e01@0-9' = 1", "open = 0 | 1", "station 'p' = 1",
            "open = 0 | 1", "station 'p' = 1", "open = 1 | 0");
    }

    private static void mend() {
        String station = "station 'p;p;e02@0-60;e01@0-60' = 4";
        edge(32, "none", station, "mend = 0 |", "plan 'a0@5;b0@7' = 2", "mend = 0 |");
        edge(32, "one: of as few the least row", station, "plan 'a0@5;b0@5' = 2", "mend = 1 | 0", "plan 'a1@1;b0@5;a0@5' = 3",
            "mend = 1 | 1", "plan 'a0@0;a0@1;a0@2' = 3", "mend = 1 | 1", "plan 'a0@0;a0@2;a0@60' = 3", "mend = 1 | 2");
        edge(32, "two: of as few the least row", station, "plan 'a1@0;a0@60;b0@60' = 3", "mend = 2 | 1 2",
            "plan 'a0@10;b0@10;a0@20;b0@20' = 4", "mend = 2 | 0 2", "plan 'a0@60;a1@0;a1@2;b0@60' = 4", "mend = 2 | 0 3");
        edge(32, "3 at most", station, "plan 'a0@60;a0@60;a0@60' = 3", "mend = 3 | 0 1 2", "plan 'a0@60;a0@60;a0@60;a0@60' = 4",
            "mend = -2", "plan 'a0@10;b0@10;a0@20;b0@20;a0@30;b0@30' = 6", "mend = 3 | 0 2 4");
        edge(32, "they, rising: the last ones of 12", station,
            "plan 'a1@0;a1@1;a1@2;a1@3;a1@4;a1@5;a1@6;a1@7;a1@8;a1@60;a1@60;a1@60' = 12", "mend = 3 | 9 10 11",
            "plan 'a1@60;a1@1;a1@2;a1@3;a1@4;a1@5;a1@60;a1@7;a1@8;a1@9;a1@10;a1@60' = 12", "mend = 3 | 0 6 11");
        edge(32, "-2: not by 3", station, "plan 'a0@60;a0@60;a0@60;a0@60;b0@5' = 5", "mend = -2", "strike 3 = 4",
            "mend = 3 | 0 1 2");
        edge(32, "-2: nobody is there", "mend = -2", "station 'e01@0-9' = 1", "mend = -2");
        edge(32, "all TRIPS that are left are LAWFUL: a SHY one without company", "station 'p!;p;p;e02@0-60' = 4",
            "plan 'b0@5;a0@5;b0@6' = 3", "mend = 1 | 2", "plan 'a0@5' = 1", "mend = 1 | 0", "plan 'b0@5;a0@5;c0@5' = 3",
            "mend = 1 | 0");
        edge(32, "the bags are WATCHED always: or seen", "station 'p;e02@0-60^;e12@0-60^' = 3", "plan 'a0@5' = 1", "mend = 0 |",
            "plan 'a0@5;a1@20' = 2", "mend = 1 | 1");
        edge(32, "TRIPS behind TRAIN are not LAWFUL, even if the bags are WATCHED", station, "train 10 = 60", "plan 'a0@9' = 1",
            "mend = 1 | 0", "plan 'a0@8' = 1", "mend = 0 |");
    }

    /** Not an edge that the document names, but one of how minutes are kept. */
    private static void minutesAbove63() {
        for (int train = 62; train <= 67; train++) {
            String at = "train " + train + " = 60";
            int last = train - 1;
            edge(21, "MINUTES 0 .. TRAIN - 1, TRAIN " + train, "station 'p;p;e12@0-99;e01@0-99^' = 4", at, "plan 'a0@"
                + (last - 1) + ";b0@" + (last - 2) + "' = 2", "alone = 2 | " + (last - 1) + " 2 " + (last - 1), "bench " + last
                + " = 0 | 0 0", "person 0 3 = " + (last - 1), "may 0 0 " + (last - 5) + " = " + 6, "may 0 0 " + (last - 6)
                + " = 0", "plan '' = 0", "alone = 0 | -1 0 -1", "stuck = 0 | -1 -1", "latest 0 0 = " + (train - 4) + " | "
                + train, "mend = 0 |");
            edge(21, "without PEOPLE, TRAIN " + train, at, "alone = " + train + " | 0 " + train + " 0");
        }
        for (int s = 58; s <= 68; s++) {
            edge(14, "one SEES them in MINUTE " + s + " alone", "station 'p;p;e01@0-99;e11@0-99^' = 4", "train 99 = 60",
                "plan 'b0@" + s + "' = 1", "may 0 1 " + (s - 1) + " = 0", "may 0 1 " + s + " = 6", "may 0 1 " + (s - 2)
                + " = 6", "may 0 1 " + (s - 3) + " = 0", "may 0 1 " + (s + 1) + " = 0");
        }
        edge(14, "a TRIP from MINUTE 0 on, and MINUTES above 63", "station 'p;p;e12@0-99;e01@0-99' = 4", "train 99 = 60",
            "plan 'a0@0' = 1", "bench 0 = 2 | 0 1", "bench 3 = 2 | 0 1", "bench 4 = 3 | 0 0", "bench 64 = 3 | 0 0",
            "bench 67 = 3 | 0 0", "person 0 2 = 4", "plan 'a0@64' = 1", "bench 0 = 3 | 0 0", "may 0 0 0 = 0", "may 0 1 0 = 0",
            "earliest 0 0 = 0 | 4", "may 0 1 64 = 3", "may 0 1 67 = 3", "may 0 1 68 = 0");
        for (int s = 55; s <= 66; s++) {
            edge(14, "(3), 6 round MINUTE " + s, "station 'p;p;e12@0-99;e01@0-99;e33@0-99^' = 5", "train 99 = 60", "plan 'a0@"
                + s + "' = 1", "may 0 1 " + (s - 1) + " = 0", "may 0 1 " + s + " = 3", "may 0 1 " + (s + 3) + " = 3", "may 0 1 "
                + (s + 4) + " = 0", "may 0 0 " + (s - 4) + " = 0", "may 0 0 " + (s - 3) + " = 3", "may 0 0 " + (s + 3) + " = 3",
                "may 0 0 " + (s + 4) + " = 0", "may 1 0 " + (s - 4) + " = 0", "may 1 0 " + (s - 3) + " = 6", "may 1 0 " + (s
                + 3) + " = 6", "may 1 0 " + (s + 4) + " = 0", "may 1 1 " + (s - 1) + " = 0", "may 1 1 " + s + " = 6", "may 1 1 "
                + (s + 3) + " = 6", "may 1 1 " + (s + 4) + " = 0", "may 1 2 " + (s - 3) + " = 6", "may 1 2 " + (s - 2) + " = 6",
                "plan 'a2@" + s + "' = 1", "may 1 1 " + (s + 2) + " = 6", "may 1 1 " + (s + 3) + " = 0", "may 1 1 " + (s + 5)
                + " = 0", "may 1 1 " + (s + 6) + " = 6", "may 1 1 " + (s + 9) + " = 0", "alone = 0 | -1 0 -1", "bench " + (s
                + 2) + " = 2 | 0 1", "bench " + (s + 3) + " = 2 | 1 0", "bench " + (s + 5) + " = 2 | 1 0", "bench " + (s + 6)
                + " = 2 | 0 1", "bench " + (s + 9) + " = 3 | 0 0");
        }
    }
}
