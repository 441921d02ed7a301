/** The edges that the Terms of the document name, each with a test of its own. */
public final class TermsEdgeTest extends Edges {
    /** A station, a plan, its past, one that is kept, sightings, a row, and a text that is not read yet. */
    private static final String[] BUSY = {"station 'p;p!;p;e12@0-60+;e21@10-50;e03@0-60^' = 6", "wishes '352' 0 = 3",
        "wishes '814' 1 = 3", "rule 'w*2+n-z' = 0", "train 55 = 60", "sheet 2 2 3 1 = 8", "plan 'a0@4;b0@4;c1@20' = 3",
        "keep 1 = true", "go 0 1 30 = 4", "strike 3 = 3", "seen 0 0 6 = 1", "seen 2 1 23 = 2", "alone = 0 | -1 0 -1",
        "sign 0x703b703f = 4", "end 3 = true"};
    private static final String TWELVE = "plan 'a0@0;a0@1;a0@2;a0@3;a0@4;a0@5;a0@6;a0@7;a0@8;a0@9;a0@10;a0@11' = 12";

    public static void main(String[] args) {
        minutes();
        people();
        errands();
        trips();
        watched();
        endsAndOpens();
        awayAndThings();
        shyOnes();
        firstThatIsNotSo();
        ruleBinds();
        ruleThings();
        ruleFacts();
        ruleInts();
        rows();
        refusedTexts();
        refusedSettings();
        refusedQuestions();
        questions();
        finish();
    }

    private static void minutes() {
        edge(0, "TRAIN 1 .. 99, at first 60", "count 2 = 60", "train 1 = 60", "train 99 = 1", "count 2 = 99", "train 0 = -1",
            "train 100 = -1", "count 2 = 99");
        edge(0, "till then (MINUTES 0 .. TRAIN - 1) the bags are to be WATCHED", "station 'p;e19@0-99' = 2", "plan 'a0@50' = 1",
            "alone = 10 | 50 10 50", "train 61 = 60", "alone = 11 | 50 11 50", "train 62 = 61", "alone = 11 | 50 11 50",
            "train 51 = 62", "alone = 1 | 50 1 50", "train 50 = 51", "alone = 0 | -1 0 -1");
        edge(0, "MINUTES 0 .. TRAIN, TRAIN 1: MINUTE 0 alone", "station 'p;e01@0-99' = 2", "plan 'a0@0;a0@1' = 2",
            "train 1 = 60", "alone = 1 | 0 1 0", "bench 0 = 0 | 0 0", "bench 1 = -1");
        edge(0, "MINUTES 0 .. TRAIN, TRAIN 99: MINUTE 98 is the last", "station 'p;e01@0-99' = 2", "train 99 = 60",
            "plan 'a0@98;a0@99' = 2", "alone = 1 | 98 1 98", "bench 98 = 0 | 0 0", "bench 99 = -1", "trip 0 5 = 0",
            "trip 1 5 = 1");
    }

    private static void people() {
        edge(0, "PEOPLE 0 .. (at most 6)", "station 'p;p;p;p;p;p' = 6", "count 0 = 6", "person 5 3 = 60", "person 6 0 = !",
            "station 'p' = -1", "count 0 = 6");
        edge(0, "at most 6, in one text", "station 'p;p;p;p;p;p;p' = -13", "count 0 = 0");
        edge(0, "written a .. f", "station 'p;p;p;p;p;p;e01@0-9' = 7", "plan 'a0@0;f0@0' = 2", "trip 0 0 = 0", "trip 1 0 = 5",
            "plan 'g0@0' = -1", "plan '`0@0' = -1", "plan 'F0@0' = -1", "trip 1 0 = 5");
        edge(0, "SHY (may not go alone) or not", "station 'p!;p;p!;e01@0-9' = 4", "count 4 = 5", "person 0 0 = 1",
            "person 1 0 = 0", "person 2 0 = 1", "may 0 0 0 = 5", "may 1 0 0 = 0", "may 2 0 0 = 5");
        edge(0, "WISHES (at first 1)", "station 'p;e01@0-9' = 2", "wish 0 0 5 = 1", "station 'p;e01@0-9' = 2", "wish 0 0 5 = 5",
            "wish 0 1 5 = 1", "wish 1 0 5 = 1", "wish 1 1 5 = 1");
        edge(0, "WISHES 0 .. 9 for each ERRAND, of each of 6 for each of 8", "station 'p;p;p;p;p;p;" + times(8, "e01@0-9", ";")
            + "' = 14", "wish 5 7 9 = 1", "wish 5 6 0 = 1", "wish 0 7 3 = 1", "wish 4 7 2 = 1", "wish 5 7 1 = 9",
            "wish 5 6 1 = 0", "wish 0 7 1 = 3", "wish 4 7 1 = 2", "wish 0 0 1 = 1");
    }

    private static void errands() {
        String seven = times(7, "e01@0-9", ";");
        edge(0, "ERRANDS 0 .. (at most 8)", "station '" + seven + "' = 7", "station 'e12@3-45+^' = 1", "count 1 = 8",
            "errand 7 0 = 1", "errand 7 3 = 45", "errand 8 0 = !", "station 'e01@0-9' = -1", "count 1 = 8");
        edge(0, "at most 8, in one text", "station '" + seven + ";e01@0-9;e01@0-9' = -65", "count 1 = 0");
        edge(0, "WAY 0 .. 9 (a digit)", "station 'e01@0-9;e91@0-9' = 2", "errand 0 0 = 0", "errand 1 0 = 9",
            "station 'e/1@0-9' = -2", "station 'e:1@0-9' = -2", "station 'e-1@0-9' = -2");
        edge(0, "LASTS 1 .. 9 (a digit 1 .. 9)", "station 'e01@0-9;e09@0-9' = 2", "errand 0 1 = 1", "errand 1 1 = 9",
            "station 'e00@0-9' = -3", "station 'e0:@0-9' = -3", "count 1 = 2");
        edge(0, "FROM 0 .. 99 (1 or 2 digits)", "station 'e01@0-99;e01@00-99;e01@9-99;e01@99-99' = 4", "errand 0 2 = 0",
            "errand 1 2 = 0", "errand 2 2 = 9", "errand 3 2 = 99", "station 'e01@100-99' = -7", "station 'e01@-99' = -5",
            "station 'e01@0a-99' = -6");
        edge(0, "TILL no less", "station 'e01@5-5;e01@5-6;e01@99-99;e01@0-0' = 4", "errand 0 3 = 5", "errand 1 3 = 6",
            "errand 2 3 = 99", "errand 3 3 = 0", "station 'e01@5-4' = -7", "station 'e01@99-98' = -9",
            "station 'e01@1-0' = -7");
        edge(0, "TILL at most 99 (1 or 2 digits)", "station 'e01@0-99;e01@0-9;e01@0-09' = 3", "errand 0 3 = 99",
            "errand 1 3 = 9", "errand 2 3 = 9", "station 'e01@0-100' = -9", "station 'e01@0-' = -7", "station 'e01@0-x' = -7");
        edge(0, "perhaps + or * (THING 1, or 2; else 0)", "station 'e01@0-9;e01@0-9+;e01@0-9*' = 3", "errand 0 4 = 0",
            "errand 1 4 = 1", "errand 2 4 = 2", "station 'e01@0-9++' = -9", "station 'e01@0-9+*' = -9",
            "station 'e01@0-9*+' = -9", "station 'e01@0-9**' = -9", "station 'e01@0-9,' = -8");
        edge(0, "then perhaps ^ (it SEES them)", "station 'e01@0-9;e01@0-9^;e01@0-9+^;e01@0-9*^' = 4", "errand 0 5 = 0",
            "errand 1 5 = 1", "errand 1 4 = 0", "errand 2 5 = 1", "errand 2 4 = 1", "errand 3 5 = 1", "errand 3 4 = 2",
            "station 'e01@0-9^^' = -9", "station 'e01@0-9^+' = -9", "station 'e01@0-9+^+' = -10");
        edge(0, "what they tell comes behind what there is", "station 'p;e12@3-45' = 2", "station 'e67@8-90;p!' = 2",
            "count 0 = 2", "count 1 = 2", "person 0 0 = 0", "person 1 0 = 1", "errand 0 0 = 1", "errand 1 0 = 6",
            "errand 1 3 = 90");
    }

    private static void trips() {
        edge(0, "away in MINUTES s .. s + 2 times WAY + LASTS - 1", "station 'p;p;e23@0-99' = 3", "plan 'a0@10' = 1",
            "bench 9 = 3 | 0 0", "bench 10 = 2 | 0 1", "bench 16 = 2 | 0 1", "bench 17 = 3 | 0 0", "person 0 2 = 7",
            "trip 0 3 = 17");
        edge(0, "at the ERRAND in MINUTES s + WAY .. s + WAY + LASTS - 1", "station 'p;p;e23@0-99' = 3", "plan 'a0@10' = 1",
            "bench 11 = 2 | 0 1", "bench 12 = 2 | 0 0", "bench 14 = 2 | 0 0", "bench 15 = 2 | 0 1");
        edge(0, "away, WAY 0, LASTS 1", "station 'p;e01@0-99' = 2", "plan 'a0@10' = 1", "bench 9 = 1 | 0 0",
            "bench 10 = 0 | 0 0", "bench 11 = 1 | 0 0", "person 0 2 = 1");
        edge(0, "away, WAY 9, LASTS 9", "station 'p;e99@0-99' = 2", "train 99 = 60", "plan 'a0@60' = 1", "bench 59 = 1 | 0 0",
            "bench 60 = 0 | 0 1", "bench 68 = 0 | 0 1", "bench 69 = 0 | 0 0", "bench 77 = 0 | 0 0", "bench 78 = 0 | 0 1",
            "bench 86 = 0 | 0 1", "bench 87 = 1 | 0 0", "person 0 2 = 27", "trip 0 3 = 87");
        edge(0, "THE PLAN: at most 12 TRIPS", "station 'p;p;e01@0-99' = 3", TWELVE, "count 3 = 12", "trip 11 2 = 11",
            "trip 12 2 = !", "go 0 0 20 = -2", "count 3 = 12", "strike 11 = 11", "go 0 0 20 = 12", "go 0 0 21 = -2");
        edge(0, "in the order in which they were put in", "station 'p;p;e01@0-99' = 3", "go 1 0 30 = 1", "go 0 0 20 = 2",
            "go 1 0 10 = 3", "trip 0 2 = 30", "trip 1 2 = 20", "trip 2 2 = 10");
        edge(0, "Who is not away is at the bench", "station 'p;p;p;e01@0-99' = 4", "plan 'b0@5' = 1", "bench 5 = 5 | 0 0",
            "bench 4 = 7 | 0 0");
    }

    private static void watched() {
        edge(0, "WATCHED, if somebody is at the bench", "station 'p;p;e01@0-99' = 3", "plan 'a0@5;b0@6' = 2",
            "alone = 0 | -1 0 -1", "plan 'a0@5;b0@5' = 2", "alone = 1 | 5 1 5");
        edge(0, "or at an ERRAND that SEES them (on the way: not)", "station 'p;e13@0-60^' = 2", "plan 'a0@10' = 1",
            "alone = 2 | 10 1 10", "plan 'a0@58' = 1", "alone = 1 | 58 1 58");
        edge(0, "at an ERRAND that does not see them", "station 'p;e13@0-60' = 2", "plan 'a0@10' = 1", "alone = 5 | 10 5 10");
        edge(0, "(Without PEOPLE: never.)", "station 'e01@0-9^' = 1", "alone = 60 | 0 60 0", "train 99 = 60",
            "alone = 99 | 0 99 0", "mend = -2", "station 'p' = 1", "alone = 0 | -1 0 -1");
    }

    private static void endsAndOpens() {
        edge(0, "(1) it ends at TRAIN or ahead", "station 'p;p;p;e12@0-99' = 4", "plan 'a0@56' = 1", "trip 0 5 = 0",
            "plan 'a0@57' = 1", "trip 0 5 = 1", "may 1 0 56 = 0", "may 1 0 57 = 1", "train 61 = 60", "trip 0 5 = 0",
            "train 60 = 61", "trip 0 5 = 1");
        edge(0, "(2) s + WAY is FROM or more", "station 'p;p;p;e12@10-20' = 4", "plan 'a0@9' = 1", "trip 0 5 = 0",
            "plan 'a0@8' = 1", "trip 0 5 = 2", "may 1 0 9 = 0", "may 1 0 8 = 2");
        edge(0, "(2) s + WAY + LASTS is TILL or less", "station 'p;p;p;e12@10-20' = 4", "plan 'a0@17' = 1", "trip 0 5 = 0",
            "plan 'a0@18' = 1", "trip 0 5 = 2", "may 1 0 17 = 0", "may 1 0 18 = 2");
        edge(0, "(2) just as long as it lasts", "station 'p;p;e12@10-12;e12@10-11;e12@0-2;e01@0-1' = 6",
            "earliest 0 0 = 9 | 13", "latest 0 0 = 9 | 13", "earliest 0 1 = -2", "earliest 0 2 = -2", "earliest 0 3 = 0 | 1",
            "latest 0 3 = 0 | 1");
    }

    private static void awayAndThings() {
        String[] plans = {"a0@10;a0@14", "a0@10;a0@13", "a0@10;a0@6", "a0@10;a0@7", "a0@10;a0@10", "a0@10;b0@10", "a0@10;a1@12",
            "a1@12;a0@10", "a0@58;a0@55"};
        int[][] due = {{0, 0}, {3, 3}, {0, 0}, {3, 3}, {3, 3}, {0, 0}, {3, 3}, {3, 3}, {1, 3}};
        for (int k = 0; k < plans.length; k++) {
            edge(0, "(3) away in no MINUTE of it by another TRIP", "station 'p;p;e12@0-99;e01@0-99' = 4", "plan '" + plans[k]
                + "' = 2", "trip 0 5 = " + due[k][0], "trip 1 5 = " + due[k][1]);
        }
        edge(0, "(3) in may()", "station 'p;p;e12@0-99;e01@0-99' = 4", "plan 'a0@10' = 1", "may 0 0 6 = 0", "may 0 0 7 = 3",
            "may 0 0 13 = 3", "may 0 0 14 = 0", "may 0 1 9 = 0", "may 0 1 10 = 3", "may 0 1 13 = 3", "may 0 1 14 = 0");
        String[] things = {"a0@10;b1@13", "a0@10;b1@14", "a0@10;b1@6", "a0@10;b1@5", "a0@10;b2@10", "a0@10;b3@10",
            "a0@10;b0@10", "a0@10;b0@11", "a0@10;b1@10", "a2@10;b2@12", "a3@10;b3@12", "a2@10;b0@12", "a0@57;b0@56"};
        int[][] broken = {{4, 4}, {0, 0}, {4, 4}, {0, 0}, {0, 0}, {0, 0}, {0, 0}, {4, 4}, {4, 4}, {4, 4}, {0, 0}, {0, 0}, {1,
            4}};
        for (int k = 0; k < things.length; k++) {
            edge(0,
                "(4) no other TRIP that needs that is away in a MINUTE of it, but one for the same ERRAND from the same MINUTE",
                "station 'p;p;p;e12@0-99+;e21@0-99+;e12@0-99*;e12@0-99' = 7", "plan '" + things[k] + "' = 2", "trip 0 5 = "
                + broken[k][0], "trip 1 5 = " + broken[k][1]);
        }
        edge(0, "(4) a third", "station 'p;p;p;e12@0-99+' = 4", "plan 'a0@10;b0@10;c0@13' = 3", "trip 0 5 = 4", "trip 1 5 = 4",
            "trip 2 5 = 4", "shift 2 1 = 14", "trip 0 5 = 0", "trip 1 5 = 0");
        edge(0, "(4) in may()", "station 'p;p;p;e12@0-99+;e12@0-99*' = 5", "plan 'a0@10' = 1", "may 1 0 10 = 0",
            "may 1 0 13 = 4", "may 1 0 14 = 0", "may 1 0 7 = 4", "may 1 0 6 = 0", "may 1 1 11 = 0");
    }

    private static void shyOnes() {
        String[] plans = {"a0@10;b0@10", "a0@10;b0@11", "a0@10;b1@10", "a0@10;c0@10", "b0@10;a0@10", "b0@10;c0@20"};
        int[][] due = {{0, 0}, {5, 0}, {5, 0}, {0, 0}, {0, 0}, {0, 5}};
        for (int k = 0; k < plans.length; k++) {
            edge(0, "(5) another TRIP, by another one, for the same ERRAND from the same MINUTE on",
                "station 'p!;p;p!;e12@0-99;e12@0-99' = 5", "plan '" + plans[k] + "' = 2", "trip 0 5 = " + due[k][0],
                "trip 1 5 = " + due[k][1]);
        }
        edge(0, "(5) none other at all", "station 'p!;p;e12@0-99' = 3", "plan 'a0@10' = 1", "trip 0 5 = 5");
        edge(0, "(5) one that is not LAWFUL is one of THE PLAN, too", "station 'p!;p;e12@0-99;e12@0-99' = 4",
            "plan 'a0@10;b0@10;b1@12' = 3", "trip 0 5 = 0", "trip 1 5 = 3");
        edge(0, "(5) in may()", "station 'p!;p;p;e12@0-99;e12@0-99' = 5", "may 0 0 10 = 5", "plan 'b0@10' = 1",
            "may 0 0 10 = 0", "may 0 0 11 = 5", "may 0 1 10 = 5", "may 2 0 11 = 0");
    }

    private static void firstThatIsNotSo() {
        edge(10, "the first of (1) .. (5) that is not so: (1) ahead of (2)", "station 'p;e12@70-99' = 2", "plan 'a0@58' = 1",
            "trip 0 5 = 1", "may 0 0 58 = 1");
        edge(10, "(2) ahead of (3)", "station 'p;e12@10-20' = 2", "plan 'a0@5;a0@6' = 2", "trip 0 5 = 2", "trip 1 5 = 2",
            "may 0 0 7 = 2");
        edge(10, "(3) ahead of (4)", "station 'p;p;e12@0-20+' = 3", "plan 'a0@5;a0@6' = 2", "trip 0 5 = 3", "trip 1 5 = 3",
            "may 0 0 7 = 3");
        edge(10, "(4) ahead of (5)", "station 'p!;p;e12@0-20+' = 3", "plan 'a0@5;b0@6' = 2", "trip 0 5 = 4", "trip 1 5 = 4",
            "may 0 0 9 = 4");
        edge(10, "(1), (2), (3) ahead of (5)", "station 'p!;p;e12@10-20' = 3", "plan 'a0@58' = 1", "trip 0 5 = 1",
            "plan 'a0@5' = 1", "trip 0 5 = 2", "plan 'a0@10;a0@10' = 2", "trip 0 5 = 3");
    }

    /** WISH 7, away 4 MINUTES, from MINUTE 5 on. */
    private static void worth(String sentence, String... rulesAndWorths) {
        String[] rows = new String[3 + rulesAndWorths.length];
        rows[0] = "station 'p;p!;e12@0-60;e23@0-60' = 4";
        rows[1] = "wishes '70' 0 = 2";
        rows[2] = "plan 'a0@5' = 1";
        for (int k = 0; k < rulesAndWorths.length; k += 2) {
            rows[3 + k] = "rule '" + rulesAndWorths[k] + "' = 0";
            rows[4 + k] = "trip 0 4 = " + rulesAndWorths[k + 1];
        }
        edge(6, sentence, rows);
    }

    private static void ruleBinds() {
        worth("(at first none: w)", "", "7", "1", "1", "", "7");
        edge(6, "at first none: w", "station 'p;e12@0-60' = 2", "wish 0 0 7 = 1", "plan 'a0@5' = 1", "trip 0 4 = 7",
            "worth = 7 | 0 -1");
        worth("< (two; 1 or 0)", "1<2", "1", "2<2", "0", "3<2", "0");
        worth("> (two; 1 or 0)", "1>2", "0", "2>2", "0", "3>2", "1");
        worth("= (two; 1 or 0)", "1=2", "0", "2=2", "1", "3=2", "0", "-2=0-2", "1");
        worth("< > = bind least", "1+1<3", "1", "3=1+2", "1", "2*3=6", "1", "5>2*3", "0", "5-4>0", "1", "9=w+2", "1");
        edge(6, "not one behind the other", "rule '1<2<3' = -4", "rule '1=2>3' = -4", "rule '1>2=3' = -4", "rule '1<2=3' = -4",
            "rule '(1<2<3)' = -5", "rule '1<2+3=4' = -6", "rule '(1<2)<3' = 0", "rule '1<(2<3)' = 0", "rule '(1<2)+(2=2)' = 0");
        worth("(1<2)<3 is 1<3", "(1<2)<3", "1", "(1<2)<1", "0", "1<(2<3)", "0", "(1<2)+(2=2)", "2");
        worth("then + - (from the left)", "9-3-2", "4", "9-3+2", "8", "1-2-3-4", "-8");
        worth("then * / (from the left)", "9/2*2", "8", "9*2/4", "4", "100/5/2", "10", "2+3*4", "14", "2*3+4", "10", "20-6/3",
            "18");
        worth("by 0: 0", "7/0", "0", "0/0", "0", "7/(s-5)", "0", "5+7/0", "5", "-7/0", "0", "7/0*3+1", "1");
        worth("cut to 0", "7/2", "3", "-7/2", "-3", "7/-2", "-3", "-7/-2", "3", "1/2", "0", "-1/2", "0", "(0-7)/2", "-3");
        worth("then - ahead of a thing (any many)", "-7", "-7", "--7", "7", "---7", "-7", "2--3", "5", "2---3", "-1", "2*-3",
            "-6", "-2*-3", "6", "-(2+3)", "-5", "--(2+3)", "5", "-w", "-7", "-w+1", "-6");
        edge(6, "- ahead of nothing", "rule '-' = -2", "rule '2-' = -3", "rule '(-)' = -3", "rule '-+2' = -2",
            "rule '-*2' = -2");
    }

    private static void ruleThings() {
        worth("a NUMBER of 1 to 3 digits", "0", "0", "5", "5", "12", "12", "999", "999", "007", "7", "000", "0", "100", "100");
        edge(6, "a NUMBER of 4 digits", "rule '1234' = -4", "rule '0001' = -4", "rule '1+2345' = -6", "rule '(1000)' = -5");
        worth("an EXPRESSION in ( ) (at most 4 in one another)", "((((7))))", "7", "((((7))))+((((8))))", "15", "(2+3)*4", "20",
            "(1)", "1", "-(-(-(-(3))))", "3");
        edge(6, "at most 4 in one another", "rule '(((((7)))))' = -5", "rule '((((1+(2)))))' = -7", "rule '(((((' = -5",
            "rule '-(-(-(-(-(3)))))' = -10", "rule '((((7))))' = 0");
        edge(6, "( ) that do not close, or that hold nothing", "rule '()' = -2", "rule '(' = -2", "rule '(7' = -3",
            "rule '((((7)))' = -9", "rule '7)' = -2", "rule '(7))' = -4", "rule ')' = -1", "rule '7(8)' = -2",
            "rule '(7)8' = -4", "rule '(7)(8)' = -4");
        edge(6, "things that are none", "rule 'x' = -1", "rule 'W' = -1", "rule 'b' = -1", "rule 'v' = -1", "rule '1x' = -2",
            "rule 'ww' = -2", "rule 'w1' = -2", "rule '1w' = -2", "rule '1 ' = -2", "rule ' 1' = -1", "rule '1.5' = -2");
    }

    private static void fact(String fact, String plan, String... worths) {
        String[] rows = new String[4 + worths.length];
        rows[0] = "station 'p;p!;e12@0-60;e23@0-60' = 4";
        rows[1] = "wishes '70' 0 = 2";
        rows[2] = "rule '" + fact.charAt(0) + "' = 0";
        rows[3] = "plan '" + plan + "' = " + worths.length;
        for (int i = 0; i < worths.length; i++) {
            rows[4 + i] = "trip " + i + " 4 = " + worths[i];
        }
        edge(6, fact, rows);
    }

    private static void ruleFacts() {
        fact("w the WISH for it", "a0@5;a1@10;b0@20;b1@30", "7", "0", "1", "1");
        fact("a how long one is away", "a0@5;a1@10", "4", "7");
        fact("s its first MINUTE", "a0@0;a0@99;a0@5", "0", "99", "5");
        fact("n how many go with it: none, one", "a0@5;b0@5;a0@6;b1@5;a1@6", "1", "1", "0", "0", "0");
        fact("n how many go with it (other TRIPS of THE PLAN)", "a0@5;b0@5;b0@5", "2", "2", "2");
        fact("i the one who goes", "a0@5;b0@5", "0", "1");
        fact("e the ERRAND", "a0@5;a1@9", "0", "1");
        fact("y 1 if SHY", "a0@5;b0@5", "0", "1");
        fact("z 1 if that one goes for this ERRAND earlier in THE PLAN's order, too", "a0@20;a0@5;b0@30;a1@40;a0@50;b0@1", "0",
            "1", "0", "0", "1", "1");
        edge(6, "i and e, the last ones", "station 'p;p;p;p;p;p;" + times(8, "e01@0-9", ";") + "' = 14", "rule 'i*10+e' = 0",
            "plan 'f7@0' = 1", "trip 0 4 = 57");
    }

    private static void ruleInts() {
        worth("put to -999 .. 999", "998", "998", "999", "999", "998+1", "999", "999+1", "999", "999*999", "999", "-998",
            "-998", "-999", "-999", "-998-1", "-999", "-999-1", "-999", "-999*999", "-999");
        worth("put so at the end alone", "999+1-1", "999", "999*2-999-999", "0", "999*999/998-999", "1", "-999-1+2", "-998");
        worth("As ints: they wrap around", "999*999*999*999", "-999", "999*999*999*999/999/999", "-427", "512*512*512*16",
            "-999", "512*512*512*16-1", "999", "512*512*512*32", "0", "512*512*512*32+5", "5");
        worth("the least int", "512*512*512*16/-1", "-999", "-(512*512*512*16)", "-999", "512*512*512*16<0", "1",
            "512*512*512*16-1>0", "1", "512*512*512*16*-1=512*512*512*16", "1");
        edge(6, "the sum of WORTHS is not put so", "station 'p;e01@0-60' = 2", "rule '999' = 0", "plan 'a0@1;a0@2' = 2",
            "worth = 1998 | 0 -1", "person 0 5 = 1998", "rule '-999' = 0", "worth = -1998 | 0 -1", "person 0 5 = -1998");
    }

    private static void rows() {
        edge(0, "ROW: numbers told last by a call that says so", "row 0 = !", "count 7 = 0", "alone = 60 | 0 60 0",
            "bench 3 = 0 | 0 0", "worth = 0 | 0 -1", "open = 0 | 0", "most 0 = 0 |", "fits = 0 | 0", "mend = -2 | 0",
            "parts '1,2' = 1 | 0");
        edge(0, "a call that tells no numbers leaves them", "station 'p;p;e12@0-60' = 3", "stays = 0 | 60 0 60",
            "person 0 3 = 60 | 60 0 60", "errand 0 0 = 1 | 60 0 60", "wish 0 0 3 = 1 | 60 0 60", "train 50 = 60 | 60 0 60",
            "sheet 2 1 3 0 = 3 | 60 0 60", "may 0 0 5 = 0 | 60 0 60", "go 0 0 5 = 1 | 60 0 60", "trip 0 0 = 0 | 60 0 60",
            "pair 0 1 0 20 = -2 | 60 0 60", "shift 0 1 = 6 | 60 0 60", "slack 0 = 39 | 60 0 60", "hands 1 0 = -2 | 60 0 60",
            "seen 0 0 7 = 1 | 60 0 60", "stayed 7 = 2 | 60 0 60", "forget = 1 | 60 0 60", "strike 0 = 0 | 60 0 60",
            "undo = 2 | 60 0 60", "keep 0 = true | 60 0 60", "again 0 = true | 60 0 60", "plan '' = 0 | 60 0 60",
            "rule 'w' = 0 | 60 0 60", "wishes '1' 0 = 1 | 60 0 60", "station '' = 0 | 60 0 60", "count 0 = 2 | 60 0 60");
        edge(0, "one that answers -2 tells none", "station 'p!;p;e12@0-60' = 3", "stuck = 0 | -1 -1",
            "earliest 0 0 = -2 | -1 -1", "latest 0 0 = -2 | -1 -1", "best 0 = -2 | -1 -1", "tight = -2 | -1 -1",
            "plan 'a0@1;a0@11;a0@21;a0@31' = 4", "mend = -2 | -1 -1");
        edge(0, "nor one that answers -1 - p, -100 or -200", "alone = 60 | 0 60 0", "afternoon 'y' = -1 | 0 60 0",
            "parts 'x' = -1 | 0 60 0", "turn 'a' = -100 | 0 60 0", "lockers '9' 21 = -100 | 0 60 0",
            "lockers '9' 8 = -200 | 0 60 0", "lockers 'x' 8 = -1 | 0 60 0", "left 'x' 1 8 = -1 | 0 60 0",
            "left '9' 5 8 = -100 | 0 60 0", "station 'p' = 1 | 0 60 0", "turn 'x' = -1 | 0 60 0", "stays = 0 | 60 0 60");
        edge(0, "Sets of PEOPLE are bits", "station 'p!;p;p;p;p;p!;e01@0-9' = 7", "count 4 = 33", "plan 'b0@0' = 1",
            "bench 0 = 61 | 0 0", "stayed 0 = 63");
        edge(0, "Fractions are told in lowest terms, upper and lower number (0 by 1)", "station 'p;e01@0-60' = 2",
            "plan 'a0@59' = 1", "chance 1 5 = 0 | 1 2", "chance 1 6 = 0 | 2 5", "chance 1 3 = 0 | 7 10",
            "chance 1 10 = 0 | 0 1", "chance 1 0 = 0 | 1 1");
    }

    private static void refused(String... rows) {
        for (String row : rows) {
            unchanged(0, "Refused calls change nothing but THE TEXT, which a call that reads it empties", BUSY, row);
        }
    }

    private static void refusedTexts() {
        refused("end 4 = false", "end -1 = false", "station 'p!;e99@0-99*^;x' = -15", "station 'p;p!;p;p' = -8",
            "station 'e12@9-8' = -7", "wishes '12' 0 = -3", "wishes '1234' 0 = -4", "wishes '99x' 2 = -3",
            "wishes '123' 3 = -100", "wishes '' -1 = -100", "rule 'a+' = -3", "rule '1<2<3' = -4", "plan 'a0@1;a3@2' = -7",
            "plan 'd0@1' = -1", "plan 'a0@1;' = -6", "afternoon 'x0;y' = -4", "afternoon 'x0;ga0@' = -8",
            "afternoon 'x0;s1' = -6", "parts '1,' = -3", "parts '1,2,3,4,5,6,7' = -13", "turn 'abx' = -3", "turn '' = -1",
            "turn 'abd' = -3", "lockers '12' 0 = -100", "lockers '1x' 5 = -2", "lockers '19' 5 = -200", "left '1' 5 5 = -100",
            "left '0' 1 5 = -1", "left '123456789' 1 5 = -9");
        String[] full = {"station 'p' = 1", "alone = 0 | -1 0 -1", "sign 0x703f3f3f = 4", "sign 0 = 8", "sign 0 = 12",
            "sign 0 = 16", "sign 0 = 20", "sign 0 = 24", "sign 0 = 28", "sign 0 = 32", "sign 0 = 36", "sign 0 = 40",
            "sign 0 = 44", "sign 0 = 48", "sign 0 = 52", "sign 0 = 56", "sign 0 = 60", "sign 0 = 64", "sign 0 = 68",
            "sign 0 = 72", "sign 0 = 76", "sign 0 = 80", "end 77 = true"};
        unchanged(2, "Refused: there would be more than 80", full, "sign 0x70707070 = -1");
    }

    private static void refusedSettings() {
        refused("person 3 0 = !", "person 0 6 = !", "errand 3 0 = !", "errand 0 7 = !", "trip 3 0 = !", "trip 0 6 = !",
            "row 3 = !", "row -1 = !", "wish 0 0 10 = -1", "wish 0 0 -1 = -1", "wish 3 0 1 = -1", "wish 0 3 1 = -1",
            "train 0 = -1", "train 100 = -1", "sheet 4 1 5 5 = -1", "sheet -1 1 5 5 = -1", "sheet 2 9 5 5 = -1",
            "sheet 3 9 5 5 = -1", "sheet 2 -1 5 5 = -2", "go 0 0 100 = -1", "go 3 0 40 = -1", "go 0 3 40 = -1",
            "go 1 0 20 = -2", "go 0 0 53 = -2", "pair 0 0 1 30 = -1", "pair 0 3 1 30 = -1", "pair 0 1 1 60 = -2",
            "pair 0 2 1 20 = -2", "strike 3 = -1", "strike -1 = -1", "shift 0 100 = -1", "shift 0 -100 = -1", "shift 3 0 = -1",
            "shift 0 51 = -2", "shift 0 -5 = -2", "shift 1 1 = -2", "seen 3 0 0 = -1", "seen 0 3 0 = -1", "seen 0 0 100 = -1",
            "keep 3 = false", "keep -1 = false", "again 0 = false", "again 3 = false", "again -1 = false", "count 9 = -100");
        String[] nothing = {"station 'p;p;e01@0-99' = 3", "seen 0 0 1 = 1", "alone = 0 | -1 0 -1"};
        unchanged(20, "Refused: none", nothing, "undo = -1");
        String[] twelve = {"station 'p;p;e01@0-99' = 3", TWELVE, "alone = 0 | -1 0 -1"};
        unchanged(15, "-2: may() tells 7", twelve, "go 0 0 20 = -2");
        unchanged(16, "-2: there is no room", twelve, "pair 0 1 0 20 = -2");
        String[] seen = {"station 'p;p;e01@0-99' = 3", "seen 0 0 1 = 1", "seen 0 0 1 = 2", "seen 0 0 1 = 3", "seen 0 0 1 = 4",
            "seen 0 0 1 = 5", "seen 0 0 1 = 6", "seen 0 0 1 = 7", "seen 0 0 1 = 8", "seen 0 0 1 = 9", "seen 0 0 1 = 10",
            "seen 0 0 1 = 11", "seen 0 0 1 = 12"};
        unchanged(40, "Refused: others, 12", seen, "seen 1 0 7 = -1");
        String[] late = {"station 'p;e01@0-99' = 2", "plan 'a0@5' = 1", "keep 0 = true", "plan 'a0@6' = 1", "station 'p' = 1",
            "plan 'b0@7' = 1"};
        unchanged(47, "Refused: PEOPLE came since", late, "again 0 = false");
    }

    private static void refusedQuestions() {
        refused("may 0 0 100 = -1", "may 0 0 -1 = -1", "may 3 0 0 = -1", "bench 55 = -1", "bench -1 = -1", "hands 0 0 = -1",
            "hands 3 0 = -1", "hands 1 55 = -1", "earliest 3 0 = -1", "earliest 0 3 = -1", "earliest 1 2 = -2",
            "latest 3 0 = -1", "latest 0 3 = -1", "latest 1 2 = -2", "best 3 = -1", "best -1 = -1", "most 3 = -1",
            "most -1 = -1", "slack 3 = -1", "slack -1 = -1", "chance 0 5 = -1", "chance 10 5 = -1", "chance 5 -1 = -1",
            "chance 5 11 = -1", "since 3 0 = -1", "since 0 3 = -1", "stayed 100 = -1", "stayed -1 = -1", "journey 1 0 1 = -1",
            "journey 1 51 1 = -1", "journey 1 1 0 = -1", "journey 1 1 10 = -1");
    }

    private static void questions() {
        String[] rows = {"count 3 = 3", "person 0 5 = 7", "errand 0 6 = 2", "trip 0 4 = 7", "may 0 1 40 = 0",
            "alone = 0 | -1 0 -1", "bench 5 = 4 | 0 0", "worth = 26 | 0 -1", "stays = 0 | 50 2 47", "stuck = 5 | 2 4",
            "hands 1 5 = 0", "earliest 0 1 = 9 | 17", "latest 0 1 = 44 | 52", "best 0 = 1 | 9 10", "most 2 = 22 | 0 0 9 1 0 9",
            "open = 4 | 0", "mend = 0 |", "slack 0 = 46", "tight = 2 | 27 0 46", "chance 9 5 = 0 | 1 1", "fits = 2 | 3",
            "since 0 0 = 3 | 3 5", "stayed 6 = 6", "journey 7 50 9 = 50 | -1 0", "parts '10,20' = 1 | 0",
            "turn 'abc' = 0 | 1 1", "lockers '123' 5 = 2 | 0 0 1", "left '123' 1 5 = 1 | 6"};
        for (String row : rows) {
            onlyAsks(0, "what only asks changes nothing but the ROW", BUSY, row);
        }
    }
}
