/** The edges that promises 33 to 49 name: parts, turns, lockers, late ones, sightings, journeys, what is kept. */
public final class WaitEdgeTest extends Edges {
    public static void main(String[] args) {
        parts();
        partsTexts();
        turns();
        turnTexts();
        lockers();
        lockerTexts();
        left();
        leftTexts();
        slack();
        tight();
        chance();
        seen();
        fits();
        since();
        stayed();
        journey();
        journeyDraws();
        keep();
        again();
        counts();
        rows();
        finish();
    }

    private static void parts() {
        edge(33, "one who waits has to be there always", "parts '0' = 1 | 0", "parts '00' = 1 | 0", "parts '1' = 0 | 1",
            "parts '60' = 0 | 60", "parts '61' = 0 | 61", "parts '99' = 0 | 99");
        edge(33, "with one of them always there", "parts '30,30' = 1 | 0", "parts '30,31' = 0 | 1", "parts '29,30' = 1 | 0",
            "parts '60,0' = 1 | 0", "parts '60,1' = 0 | 1", "parts '60,60' = 0 | 60");
        edge(33, "of each what it wants above TRAIN", "parts '61,0' = 0 | 1", "parts '99,0' = 0 | 39", "parts '61,0,0' = 0 | 1",
            "parts '61,61,0' = 0 | 2", "parts '61,1' = 0 | 2");
        edge(33, "what all of them want, TRAIN at most of each", "parts '99,99' = 0 | 138", "parts '70,99,5' = 0 | 54");
        edge(33, "TRAIN times one fewer than they are", "parts '60,60,60,60,60,0' = 1 | 0", "parts '60,60,60,60,60,1' = 0 | 1",
            "parts '50,50,50,50,50,50' = 1 | 0", "parts '50,50,50,50,50,51' = 0 | 1", "parts '99,99,99,99,99,99' = 0 | 294",
            "parts '40,40,40' = 1 | 0", "parts '40,40,41' = 0 | 1");
        edge(33, "till TRAIN", "train 99 = 60", "parts '99,0' = 1 | 0", "parts '99,1' = 0 | 1", "train 1 = 99",
            "parts '1,0' = 1 | 0", "parts '1,1' = 0 | 1", "parts '2,0' = 0 | 1", "parts '0' = 1 | 0");
        edge(33, "for as many who wait: PEOPLE are not asked", "station 'p' = 1", "parts '30,30' = 1 | 0", "parts '0' = 1 | 0");
    }

    private static void partsTexts() {
        edge(33, "numbers of 1 or 2 digits", "parts '5,05,50' = 1 | 0", "parts '123' = -3", "parts '1,234' = -5",
            "parts '000' = -3");
        edge(33, "its end, if it ends too early", "parts '' = -1", "parts '1,' = -3", "parts '12,' = -4",
            "parts '1,2,3,4,5,' = -11");
        edge(33, "a seventh number's first sign", "parts '1,2,3,4,5,6,7' = -13", "parts '1,2,3,4,5,6,' = -13",
            "parts '1,2,3,4,5,6,x' = -13", "parts '10,10,10,10,10,10,1' = -19", "parts '1,2,3,4,5,6' = 1 | 0");
        edge(33, "the sign at p can't stand there", "parts 'x' = -1", "parts ',1' = -1", "parts '1,,2' = -3",
            "parts '1;2' = -2", "parts '1, 2' = -3", "parts '-1' = -1", "parts '1,2,3,4,5,6;' = -12",
            "parts '1,2,3,4,5,612' = -13", "parts '1:' = -2", "parts '/' = -1");
    }

    private static void turns() {
        String three = "station 'p;p;p' = 3";
        edge(34, "who stayed on the fewest of these", three, "turn 'abcab' = 2 | 1 2", "turn 'aabbc' = 2 | 1 2",
            "turn 'bbcc' = 0 | 0 2", "turn 'aacc' = 1 | 0 2");
        edge(34, "of equal ones who did the longest ago last", three, "turn 'abc' = 0 | 1 1", "turn 'cab' = 2 | 1 1",
            "turn 'bca' = 1 | 1 1", "turn 'abcabc' = 0 | 2 2", "turn 'abccba' = 2 | 2 2", "turn 'acbbca' = 1 | 2 2",
            "turn 'aabbc' = 2 | 1 2", "turn 'abbaccc' = 1 | 2 3");
        edge(34, "(never: longer than any), then the first", three, "turn 'a' = 1 | 0 1", "turn 'b' = 0 | 0 1",
            "turn 'c' = 0 | 0 1", "turn 'aaaa' = 1 | 0 4");
        edge(34, "on how many the one who stayed the most did", three, "turn 'aab' = 2 | 0 2", "turn 'abb' = 2 | 0 2",
            "turn 'ccab' = 0 | 1 2", "turn 'abc' = 0 | 1 1");
        edge(34, "one alone", "station 'p' = 1", "turn 'a' = 0 | 1 1", "turn 'aaa' = 0 | 3 3");
        edge(34, "of six", "station 'p;p;p;p;p;p' = 6", "turn 'abcde' = 5 | 0 1", "turn 'fabcde' = 5 | 1 1",
            "turn 'abcdef' = 0 | 1 1");
        edge(34, "1 to 40", three, "turn '" + times(40, "a", "") + "' = 1 | 0 40", "turn '" + times(13, "abc", "")
            + "a' = 1 | 13 14", "turn '" + times(13, "abc", "") + "c' = 0 | 13 14");
    }

    private static void turnTexts() {
        String two = "station 'p;p' = 2";
        edge(34, "-100: nobody is there (asked first)", "turn '' = -100", "turn 'a' = -100", "turn 'x' = -100", "turn '"
            + times(41, "a", "") + "' = -100", "station 'e01@0-9' = 1", "turn 'a' = -100", "station 'p' = 1",
            "turn 'a' = 0 | 1 1");
        edge(34, "its end for none", two, "turn '' = -1");
        edge(34, "a letter of nobody", two, "turn 'c' = -1", "turn 'abc' = -3", "turn 'abf' = -3", "turn 'f' = -1",
            "station 'p' = 1", "turn 'c' = 0 | 0 1", "turn 'cd' = -2");
        edge(34, "the sign at p can't stand there", two, "turn 'x' = -1", "turn 'a;b' = -2", "turn 'aB' = -2", "turn 'a`' = -2",
            "turn 'a ' = -2");
        edge(34, "letters a .. f", "station 'p;p;p;p;p;p' = 6", "turn 'g' = -1", "turn 'abcdefg' = -7");
        String forty = times(20, "ab", "");
        edge(34, "40, if it has more", two, "turn '" + forty + "' = 0 | 20 20", "turn '" + forty + "a' = -41", "turn '" + forty
            + "x' = -41", "turn '" + forty + forty + "' = -41", "turn '" + signs(40, times(39, "a", "") + "x") + "a' = -40",
            "turn '" + times(39, "a", "") + "c' = -40", "turn 'x" + forty + "' = -1");
    }

    private static void lockers() {
        edge(35, "of room v (1 .. 20)", "lockers '1' 1 = 1 | 0", "lockers '1' 20 = 1 | 0", "lockers '992' 20 = 1 | 0 0 0",
            "lockers '993' 20 = 2 | 0 0 1");
        edge(35, "-100: another v (asked first)", "lockers '1' 0 = -100", "lockers '1' 21 = -100", "lockers '1' -1 = -100",
            "lockers '1' MAX = -100", "lockers '1' MIN = -100", "lockers '' 0 = -100", "lockers 'x' 21 = -100",
            "lockers '111111111' 0 = -100", "lockers '9' 0 = -100");
        edge(35, "-200: some BAG is bigger than v", "lockers '6' 5 = -200", "lockers '5' 5 = 1 | 0", "lockers '56' 5 = -200",
            "lockers '65' 5 = -200", "lockers '11111112' 1 = -200", "lockers '9' 8 = -200", "lockers '9' 9 = 1 | 0");
        edge(35, "1 to 8 digits 1 .. 9", "lockers '9' 9 = 1 | 0", "lockers '11111111' 1 = 8 | 0 1 2 3 4 5 6 7",
            "lockers '99999999' 20 = 4 | 0 0 1 1 2 2 3 3", "lockers '99999999' 9 = 8 | 0 1 2 3 4 5 6 7",
            "lockers '11111111' 8 = 1 | 0 0 0 0 0 0 0 0", "lockers '11111111' 7 = 2 | 0 0 0 0 0 0 0 1");
        edge(35, "the fewest: just full, one more", "lockers '55' 10 = 1 | 0 0", "lockers '56' 10 = 2 | 0 1",
            "lockers '4556' 10 = 2 | 0 1 1 0", "lockers '32626' 10 = 2 | 0 1 0 1 1", "lockers '46355' 10 = 3 | 0 0 1 1 2");
        edge(35, "the locker of each (0 first; the least row)", "lockers '123' 5 = 2 | 0 0 1", "lockers '321' 5 = 2 | 0 0 1",
            "lockers '531' 6 = 2 | 0 1 0", "lockers '2222' 4 = 2 | 0 0 1 1", "lockers '1919' 10 = 2 | 0 0 1 1",
            "lockers '9191' 10 = 2 | 0 0 1 1", "lockers '5454' 9 = 2 | 0 0 1 1", "lockers '3333111' 5 = 4 | 0 1 2 3 0 0 1",
            "lockers '6543211' 11 = 2 | 0 0 1 1 1 1 1");
        edge(35, "as few, even where the first that fits is not the best", "lockers '2233445' 12 = 2 | 0 0 0 1 0 1 1",
            "lockers '33342' 8 = 2 | 0 0 1 1 0");
    }

    private static void lockerTexts() {
        edge(35, "its end for none", "lockers '' 5 = -1");
        edge(35, "a ninth sign: at it", "lockers '111111111' 5 = -9", "lockers '11111111x' 5 = -9",
            "lockers '111111110' 5 = -9", "lockers '1111111111' 5 = -9", "lockers '111111119' 5 = -9",
            "lockers '1111111x1' 5 = -8");
        edge(35, "the sign at p can't stand there", "lockers '0' 5 = -1", "lockers '10' 5 = -2", "lockers 'x' 5 = -1",
            "lockers '1x' 5 = -2", "lockers '1,2' 5 = -2", "lockers ':' 5 = -1", "lockers '/' 5 = -1");
        edge(35, "-1 - p, even if some BAG is bigger", "lockers '9x' 5 = -2", "lockers '90' 5 = -2",
            "lockers '999999999' 5 = -9");
    }

    private static void left() {
        edge(36, "n lockers (0 .. 4)", "left '12' 0 20 = 3 | 0", "left '99999999' 4 20 = 0 | 255",
            "left '99999999' 3 20 = 18 | 63", "left '11111111' 4 1 = 4 | 15", "left '9' 1 9 = 0 | 1");
        edge(36, "of room v (1 .. 20)", "left '1' 1 1 = 0 | 1", "left '21' 1 1 = 2 | 2", "left '992' 1 20 = 0 | 7",
            "left '993' 1 20 = 3 | 3");
        edge(36, "-100: others (asked first)", "left '1' -1 5 = -100", "left '1' 5 5 = -100", "left '1' 1 0 = -100",
            "left '1' 1 21 = -100", "left '' 5 5 = -100", "left 'x' 1 0 = -100", "left '111111111' -1 5 = -100",
            "left '1' MAX 5 = -100", "left '1' MIN 5 = -100", "left '1' 1 MAX = -100", "left '1' 1 MIN = -100");
        edge(36, "those that are left over are the least in size, all together", "left '34' 1 5 = 3 | 2",
            "left '43' 1 5 = 3 | 1", "left '3452' 1 7 = 7 | 3", "left '765' 1 11 = 7 | 6", "left '35' 1 8 = 0 | 3",
            "left '766' 2 12 = 0 | 7", "left '555' 2 9 = 5 | 3");
        edge(36, "of as good ones the fewest", "left '2311' 1 3 = 4 | 2", "left '1112' 1 2 = 3 | 8",
            "left '11113' 1 3 = 4 | 16", "left '12345' 1 5 = 10 | 16");
        edge(36, "then the least", "left '33' 1 3 = 3 | 1", "left '1122' 1 3 = 3 | 5", "left '2211' 1 3 = 3 | 5",
            "left '9999' 1 9 = 27 | 1", "left '4545' 1 9 = 9 | 3", "left '5544' 1 9 = 9 | 5");
        edge(36, "a BAG bigger than v is left", "left '95' 1 5 = 9 | 2", "left '59' 1 5 = 9 | 1", "left '9' 4 8 = 9 | 0",
            "left '999' 4 8 = 27 | 0");
        edge(36, "no lockers", "left '1' 0 1 = 1 | 0", "left '99999999' 0 20 = 72 | 0");
        edge(36, "all are put in", "left '123' 1 6 = 0 | 7", "left '12345678' 4 9 = 0 | 255", "left '12345678' 3 12 = 0 | 255");
    }

    private static void leftTexts() {
        edge(36, "-1 - p: as lockers()", "left '' 1 5 = -1", "left '111111111' 1 5 = -9", "left '11111111x' 1 5 = -9",
            "left '0' 1 5 = -1", "left '10' 1 5 = -2", "left '1x' 1 5 = -2", "left ':' 1 5 = -1", "left 'x' 0 5 = -1");
    }

    private static void slack() {
        String station = "station 'p;p;p!;e12@0-99;e01@0-99' = 5";
        edge(37, "without missing TRAIN", station, "plan 'a0@5' = 1", "slack 0 = 51", "plan 'a0@56' = 1", "slack 0 = 0",
            "plan 'a0@55' = 1", "slack 0 = 1", "train 99 = 60", "slack 0 = 40");
        edge(37, "or the beginning of its next TRIP, behind it is back, or then", station, "plan 'a0@5;a0@9' = 2",
            "slack 0 = 0", "slack 1 = 47", "shift 1 1 = 10", "slack 0 = 1");
        edge(37, "that begins the soonest", station, "plan 'a0@5;a0@30;a0@20' = 3", "slack 0 = 11", "slack 1 = 26",
            "slack 2 = 6");
        edge(37, "its next TRIP, not one that is ahead", station, "plan 'a0@20;a0@5' = 2", "slack 0 = 36", "slack 1 = 11");
        edge(37, "its next TRIP, not another's", station, "plan 'a0@5;b0@10' = 2", "slack 0 = 51", "slack 1 = 46");
        edge(37, "TRAIN ahead of the next TRIP", station, "plan 'a0@5;a0@60' = 2", "slack 0 = 51", "plan 'a0@5;a0@99' = 2",
            "slack 0 = 51", "plan 'a0@5;a0@59' = 2", "slack 0 = 50", "slack 1 = -1");
        edge(37, "a next TRIP of THE PLAN, LAWFUL or not", station, "plan 'a0@5;a0@58' = 2", "trip 1 5 = 1", "slack 0 = 49");
        edge(37, "NONE: none such", station, "slack 0 = -1", "plan 'a0@5' = 1", "slack 1 = -1", "slack -1 = -1",
            "slack MAX = -1", "slack MIN = -1");
        edge(37, "NONE: it is not LAWFUL", station, "plan 'a0@57;c0@5;a1@20;a1@20' = 4", "slack 0 = -1", "slack 1 = -1",
            "slack 2 = -1", "slack 3 = -1");
    }

    private static void tight() {
        String station = "station 'p;p;p;e12@0-99' = 4";
        edge(38, "-2: none is LAWFUL", station, "tight = -2", "plan 'a0@57' = 1", "tight = -2", "plan 'a0@5;a0@6' = 2",
            "tight = -2");
        edge(38, "The least, of equal ones the first", station, "plan 'a0@6;b0@5;c0@6' = 3", "tight = 0 | 50 1 51",
            "plan 'b0@5;a0@6;c0@6' = 3", "tight = 1 | 50 0 51");
        edge(38, "the one with the most, of equal ones the first", station, "plan 'a0@5;b0@4;c0@4' = 3", "tight = 0 | 51 1 52",
            "plan 'a0@4;b0@5;c0@4' = 3", "tight = 1 | 51 0 52");
        edge(38, "one alone is both", station, "plan 'a0@56' = 1", "tight = 0 | 0 0 0", "plan 'a0@5;b0@5' = 2",
            "tight = 0 | 51 0 51");
        edge(38, "those that are not LAWFUL do not count", station, "plan 'a0@57;b0@5;c0@58' = 3", "tight = 1 | 51 1 51");
        edge(38, "of 12", "station 'p;p;e01@0-99' = 3",
            "plan 'a0@0;a0@2;a0@4;a0@6;a0@8;a0@10;a0@12;a0@14;a0@16;a0@18;a0@20;a0@21' = 12", "tight = 10 | 0 11 38");
    }

    private static void chance() {
        String station = "station 'p;p;e01@0-60' = 3";
        edge(39, "d MINUTES (1 .. 9)", station, "plan 'a0@59' = 1", "chance 0 5 = -1", "chance 1 5 = 0 | 1 2",
            "chance 9 5 = 0 | 1 2", "chance 10 5 = -1", "chance MAX 5 = -1", "chance MIN 5 = -1");
        edge(39, "by p tenths (0 .. 10)", station, "plan 'a0@59' = 1", "chance 1 -1 = -1", "chance 1 0 = 0 | 1 1",
            "chance 1 1 = 0 | 9 10", "chance 1 10 = 0 | 0 1", "chance 1 11 = -1", "chance 1 MAX = -1", "chance 1 MIN = -1");
        edge(39, "it misses something, if that is more than slack()", station, "plan 'a0@58' = 1", "slack 0 = 1",
            "chance 1 5 = 0 | 1 1", "chance 2 5 = 0 | 1 2", "plan 'a0@51' = 1", "chance 8 5 = 0 | 1 1", "chance 9 5 = 0 | 1 2",
            "plan 'a0@50' = 1", "chance 9 5 = 0 | 1 1", "chance 9 10 = 0 | 1 1");
        edge(39, "each by itself", station, "plan 'a0@59;b0@59' = 2", "chance 1 5 = 0 | 1 4", "chance 1 2 = 0 | 16 25",
            "chance 1 3 = 0 | 49 100", "plan 'a0@59;b0@58' = 2", "chance 1 3 = 0 | 7 10", "chance 2 3 = 0 | 49 100");
        edge(39, "of each TRIP that is LAWFUL", station, "plan 'a0@60;b0@5' = 2", "chance 9 5 = 0 | 1 1",
            "plan 'a0@60;b0@59' = 2", "chance 9 5 = 0 | 1 2");
        edge(39, "no TRIPS", "chance 9 10 = 0 | 1 1");
        edge(39, "the fraction, of 12 TRIPS", station,
            "plan 'a0@48;a0@49;a0@50;a0@51;a0@52;a0@53;a0@54;a0@55;a0@56;a0@57;a0@58;a0@59' = 12",
            "chance 1 1 = 0 | 282429536481 1000000000000", "chance 1 5 = 0 | 1 4096", "chance 1 2 = 0 | 16777216 244140625",
            "chance 1 9 = 0 | 1 1000000000000", "chance 1 10 = 0 | 0 1", "chance 1 0 = 0 | 1 1");
    }

    private static void seen() {
        String station = "station 'p;p;e23@0-99;e01@0-99' = 4";
        edge(40, "in a MINUTE (0 .. 99): how many sightings were told", station, "seen 0 0 0 = 1", "seen 1 1 99 = 2",
            "seen 0 0 0 = 3", "seen 0 0 100 = -1", "seen 0 0 -1 = -1", "seen 0 0 MAX = -1", "seen 0 0 MIN = -1", "count 6 = 3");
        edge(40, "Refused: others", "seen 0 0 0 = -1", station, "seen 2 0 5 = -1", "seen -1 0 5 = -1", "seen 0 2 5 = -1",
            "seen 0 -1 5 = -1", "seen MAX 0 5 = -1", "seen 0 MIN 5 = -1", "count 6 = 0");
        edge(40, "Refused: 12", station, "seen 0 0 1 = 1", "seen 0 0 2 = 2", "seen 0 0 3 = 3", "seen 0 0 4 = 4",
            "seen 0 0 5 = 5", "seen 0 0 6 = 6", "seen 0 0 7 = 7", "seen 0 0 8 = 8", "seen 0 0 9 = 9", "seen 0 0 10 = 10",
            "seen 0 0 11 = 11", "seen 0 0 12 = 12", "seen 0 0 13 = -1", "count 6 = 12", "forget = 12", "seen 0 0 13 = 1");
        edge(40, "behind TRAIN, too", station, "train 1 = 60", "seen 0 0 99 = 1");
        edge(41, "They are forgotten: how many there were", station, "forget = 0", "seen 0 0 5 = 1", "seen 0 0 5 = 2",
            "forget = 2", "count 6 = 0", "forget = 0", "fits = 0 | 0", "stayed 5 = 3");
        edge(40, "a station() leaves them", station, "seen 0 0 5 = 1", "station 'p' = 1", "count 6 = 1", "stayed 5 = 6");
    }

    private static void fits() {
        String station = "station 'p;p;e23@0-99;e01@0-99' = 4";
        edge(42, "(the one is at that ERRAND in that MINUTE)", station, "plan 'a0@10' = 1", "seen 0 0 11 = 1",
            "seen 0 0 12 = 2", "seen 0 0 14 = 3", "seen 0 0 15 = 4", "fits = 2 | 6");
        edge(42, "the one, that ERRAND", station, "plan 'a0@10' = 1", "seen 1 0 12 = 1", "seen 0 1 12 = 2", "fits = 0 | 0",
            "seen 0 0 12 = 3", "fits = 1 | 4");
        edge(42, "by some TRIP", station, "plan 'a0@50;b0@10;a1@12;a0@10' = 4", "seen 0 0 12 = 1", "seen 0 1 12 = 2",
            "seen 0 0 52 = 3", "fits = 3 | 7");
        edge(42, "LAWFUL or not, behind TRAIN, too", station, "plan 'a0@97' = 1", "seen 0 0 99 = 1", "fits = 1 | 1",
            "seen 0 0 98 = 2", "fits = 1 | 1");
        edge(42, "no TRIPS", station, "seen 0 0 2 = 1", "seen 0 1 0 = 2", "fits = 0 | 0");
        edge(42, "none told", station, "fits = 0 | 0", "plan 'a0@10' = 1", "fits = 0 | 0");
        edge(42, "twelve, the same one told twice, too", station, "plan 'a0@10' = 1", "seen 0 0 12 = 1", "seen 0 0 12 = 2",
            "seen 0 0 12 = 3", "seen 0 0 12 = 4", "seen 0 0 12 = 5", "seen 0 0 12 = 6", "seen 0 0 12 = 7", "seen 0 0 12 = 8",
            "seen 0 0 12 = 9", "seen 0 0 12 = 10", "seen 0 0 12 = 11", "seen 0 0 12 = 12", "fits = 12 | 4095",
            "plan 'a0@11' = 1", "fits = 0 | 0");
    }

    private static void since() {
        String station = "station 'p;p;e23@10-40;e01@0-99;e01@5-5' = 5";
        edge(43, "so that (1) and (2) are so", station, "since 0 0 = 28 | 8 35", "train 20 = 60", "since 0 0 = 6 | 8 13",
            "train 15 = 20", "since 0 0 = 1 | 8 8", "train 14 = 15", "since 0 0 = 0 | -1 -1", "since 0 1 = 14 | 0 13");
        edge(43, "MINUTES (0 .. 99), none below", "station 'p;e23@0-99' = 2", "since 0 0 = 54 | 0 53", "seen 0 0 1 = 1",
            "since 0 0 = 0 | -1 -1", "forget = 1", "seen 0 0 2 = 1", "since 0 0 = 1 | 0 0");
        edge(43, "MINUTES (0 .. 99)", station, "train 99 = 60", "since 0 1 = 99 | 0 98", "since 0 0 = 28 | 8 35");
        edge(43, "it is at the ERRAND in each MINUTE in which it was seen there", station, "seen 0 0 20 = 1",
            "since 0 0 = 3 | 16 18", "seen 0 0 22 = 2", "since 0 0 = 1 | 18 18", "seen 0 0 21 = 3", "since 0 0 = 1 | 18 18",
            "seen 0 0 23 = 4", "since 0 0 = 0 | -1 -1");
        edge(43, "and away in none in which it was seen at another one", station, "seen 0 1 20 = 1", "since 0 0 = 21 | 8 35",
            "seen 0 1 8 = 2", "since 0 0 = 20 | 9 35", "seen 0 1 41 = 3", "since 0 0 = 19 | 9 34");
        edge(43, "another's sightings do not hinder", station, "seen 1 0 20 = 1", "seen 1 1 30 = 2", "since 0 0 = 28 | 8 35");
        edge(43, "THE PLAN does not hinder", station, "plan 'a1@20;a0@10' = 2", "since 0 0 = 28 | 8 35");
        edge(43, "the first, the last (NONE, NONE)", station, "since 0 2 = 0 | -1 -1", "seen 0 0 99 = 1",
            "since 0 0 = 0 | -1 -1");
        edge(43, "NONE: others", "since 0 0 = -1", station, "since 2 0 = -1", "since -1 0 = -1", "since 0 3 = -1",
            "since 0 -1 = -1", "since MAX 0 = -1", "since 0 MIN = -1");
    }

    private static void stayed() {
        String station = "station 'p;p;e35@0-99;e01@0-99' = 4";
        edge(44, "a MINUTE that is WAY, or fewer MINUTES, off that one", station, "seen 0 0 20 = 1", "stayed 16 = 3",
            "stayed 17 = 2", "stayed 20 = 2", "stayed 23 = 2", "stayed 24 = 3");
        edge(44, "WAY 0", station, "seen 1 1 50 = 1", "stayed 49 = 3", "stayed 50 = 1", "stayed 51 = 3");
        edge(44, "in a MINUTE (0 .. 99)", station, "seen 0 0 0 = 1", "seen 1 0 99 = 2", "stayed -1 = -1", "stayed 0 = 2",
            "stayed 3 = 2", "stayed 4 = 3", "stayed 95 = 3", "stayed 96 = 1", "stayed 99 = 1", "stayed 100 = -1",
            "stayed MAX = -1", "stayed MIN = -1");
        edge(44, "of whom none is: of several", station, "seen 0 0 20 = 1", "seen 0 1 30 = 2", "seen 1 0 27 = 3",
            "stayed 20 = 2", "stayed 30 = 0", "stayed 24 = 1", "stayed 31 = 3");
        edge(44, "by sightings alone", station, "plan 'a0@20' = 1", "stayed 23 = 3", "train 1 = 60", "stayed 50 = 3");
        edge(44, "nobody", "stayed 0 = 0", "stayed 100 = -1");
        edge(44, "of six", "station 'p;p;p;p;p;p;e01@0-9' = 7", "stayed 0 = 63", "seen 5 0 0 = 1", "stayed 0 = 31");
    }

    private static void journey() {
        String station = "station 'p;p;e01@0-60' = 3";
        edge(45, "n JOURNEYS (1 .. 50)", station, "plan 'a0@59' = 1", "journey 1 0 9 = -1", "journey 1 1 9 = 0 | 0 1",
            "journey 1 50 9 = 6 | 0 44", "journey 1 51 9 = -1", "journey 1 -1 9 = -1", "journey 1 MAX 9 = -1",
            "journey 1 MIN 9 = -1");
        edge(45, "a DRAW of d (1 .. 9)", station, "plan 'a0@59' = 1", "journey 1 50 0 = -1", "journey 1 50 1 = 50 | -1 0",
            "journey 1 50 2 = 23 | 0 27", "journey 1 50 9 = 6 | 0 44", "journey 1 50 10 = -1", "journey 1 50 -1 = -1",
            "journey 1 50 MAX = -1", "journey 1 50 MIN = -1");
        edge(45, "the TRIP of which one misses something the most often (of equal ones the first)", station,
            "plan 'a0@59;b0@59' = 2", "journey 2 1 9 = 0 | 0 1", "journey 3 5 9 = 0 | 0 5", "journey 0 1 9 = 0 | 1 1",
            "journey 5 5 9 = 0 | 1 5", "journey 1 5 9 = 0 | 0 4");
        edge(45, "NONE: nobody does", station, "journey 1 50 9 = 50 | -1 0", "plan 'a0@5' = 1", "journey 1 50 9 = 50 | -1 0",
            "plan 'a0@60' = 1", "journey 1 50 9 = 50 | -1 0");
        edge(45, "misses something (as chance() says), if it is more than slack()", station, "plan 'a0@51' = 1",
            "journey 0 50 9 = 50 | -1 0", "plan 'a0@52' = 1", "journey 0 50 9 = 46 | 0 4", "plan 'a0@55' = 1",
            "journey 0 50 9 = 27 | 0 23");
        edge(45, "of 12 TRIPS, the last one", station,
            "plan 'a0@0;a0@10;a0@20;a0@30;a0@40;b0@0;b0@10;b0@20;b0@30;b0@40;b0@50;a0@59' = 12", "journey 1 50 1 = 50 | -1 0",
            "journey 1 50 9 = 3 | 11 47");
        edge(45, "of each TRIP that is LAWFUL, by their numbers", station, "plan 'a0@56;a0@60;b0@59' = 3", "trip 1 5 = 1",
            "journey 1 50 9 = 2 | 2 46", "journey 0 50 9 = 6 | 2 40");
    }

    private static void journeyDraws() {
        String[] seeds = {"0", "1", "-1", "MAX", "MIN", "12345", "-987654321"};
        String[] one = {"1 | -1 0", "0 | 0 1", "0 | 0 1", "0 | 0 1", "0 | 0 1", "0 | 0 1", "0 | 0 1"};
        String[] of2 = {"25 | 0 25", "23 | 0 27", "28 | 0 22", "28 | 0 22", "25 | 0 25", "24 | 0 26", "31 | 0 19"};
        String[] of9 = {"9 | 0 41", "6 | 0 44", "6 | 0 44", "2 | 0 48", "5 | 0 45", "8 | 0 42", "3 | 0 47"};
        String[] two = {"3 | 0 44", "0 | 1 46", "0 | 0 47", "0 | 1 48", "0 | 1 47", "0 | 1 45", "1 | 1 46"};
        for (int k = 0; k < seeds.length; k++) {
            edge(45, "R times 1103515245 + 12345 (as ints; R is seed at first), (R without sign, by 65536) % n",
                "station 'p;p;e01@0-60' = 3", "plan 'a0@59' = 1", "journey " + seeds[k] + " 1 9 = " + one[k], "journey "
                + seeds[k] + " 50 2 = " + of2[k], "journey " + seeds[k] + " 50 9 = " + of9[k], "plan 'a0@59;b0@59' = 2",
                "journey " + seeds[k] + " 50 9 = " + two[k], "journey " + seeds[k] + " 50 9 = " + two[k]);
        }
    }

    private static void keep() {
        String station = "station 'p;p;e01@0-99' = 3";
        edge(46, "under a number 0 .. 2: true", station, "plan 'a0@1' = 1", "keep 0 = true", "plan 'a0@2' = 1", "keep 1 = true",
            "plan 'a0@3' = 1", "keep 2 = true", "again 0 = true", "trip 0 2 = 1", "again 1 = true", "trip 0 2 = 2",
            "again 2 = true", "trip 0 2 = 3");
        edge(46, "Refused: others", station, "keep -1 = false", "keep 3 = false", "keep MAX = false", "keep MIN = false",
            "again 0 = false", "again 1 = false", "again 2 = false");
        edge(46, "kept once more", station, "plan 'a0@1' = 1", "keep 1 = true", "plan 'a0@2;a0@3' = 2", "keep 1 = true",
            "plan '' = 0", "again 1 = true", "count 3 = 2", "trip 0 2 = 2");
        edge(46, "no TRIPS, nobody", "keep 0 = true", "again 0 = true", station, "again 0 = false", "keep 0 = true",
            "plan 'a0@1' = 1", "again 0 = true", "count 3 = 0");
        edge(46, "12 TRIPS", station, "plan 'a0@0;a0@1;a0@2;a0@3;a0@4;a0@5;a0@6;a0@7;a0@8;a0@9;a0@10;b0@11' = 12",
            "keep 2 = true", "plan '' = 0", "again 2 = true", "count 3 = 12", "trip 11 0 = 1", "trip 11 2 = 11");
        edge(46, "it can't be undone", station, "keep 0 = true", "count 5 = 0");
    }

    private static void again() {
        String station = "station 'p;p;e01@0-99' = 3";
        edge(47, "It is as it was kept", station, "plan 'a0@1;b0@2' = 2", "keep 0 = true", "shift 0 4 = 5", "strike 1 = 1",
            "go 1 0 9 = 2", "again 0 = true", "count 3 = 2", "trip 0 2 = 1", "trip 1 2 = 2", "strike 0 = 1", "again 0 = true",
            "count 3 = 2");
        edge(47, "Refused: nothing kept", station, "plan 'a0@1' = 1", "again 0 = false", "again 1 = false", "again 2 = false",
            "again -1 = false", "again 3 = false", "again MAX = false", "again MIN = false", "keep 1 = true", "again 0 = false",
            "again 2 = false", "again 1 = true", "count 3 = 1");
        edge(47, "Refused: PEOPLE came since", station, "plan 'a0@1' = 1", "keep 0 = true", "plan '' = 0", "station 'p' = 1",
            "again 0 = false", "count 3 = 0", "keep 0 = true", "again 0 = true");
        edge(47, "Refused: ERRANDS came since", station, "plan 'a0@1' = 1", "keep 0 = true", "plan '' = 0",
            "station 'e01@0-9' = 1", "again 0 = false", "count 3 = 0", "keep 1 = true", "again 1 = true", "again 0 = false");
        edge(47, "a station() that was refused, or an empty one, brought none", station, "plan 'a0@1' = 1", "keep 0 = true",
            "plan '' = 0", "station '' = 0", "station 'p;x' = -3", "again 0 = true", "count 3 = 1");
        edge(47, "THE PLAN alone: WISHES, TRAIN, LASTS, sightings stay", station, "plan 'a0@1' = 1", "keep 0 = true",
            "wish 0 0 7 = 1", "train 50 = 60", "sheet 2 1 4 0 = 4", "seen 0 0 1 = 1", "rule 's' = 0", "again 0 = true",
            "wish 0 0 7 = 7", "count 2 = 50", "errand 0 1 = 4", "count 6 = 1", "trip 0 4 = 1");
        edge(47, "undo() leaves what is kept", station, "plan 'a0@1' = 1", "keep 0 = true", "undo = 0", "count 3 = 0",
            "again 0 = true", "count 3 = 1");
    }

    private static void counts() {
        edge(48, "-100 for another what", "count -1 = -100", "count 9 = -100", "count MAX = -100", "count MIN = -100",
            "count 8 = 0");
        edge(48, "0: PEOPLE, 1: ERRANDS, 2: TRAIN, 3: TRIPS, 4: SHY ones (bits), 5: what can be undone",
            "station 'p;p!;p!;e01@0-99;e01@0-99' = 5", "train 77 = 60", "plan 'a0@1;b0@2;c0@3;a1@4' = 4", "strike 0 = 3",
            "shift 2 1 = 5", "count 0 = 3", "count 1 = 2", "count 2 = 77", "count 3 = 3", "count 4 = 6", "count 5 = 3");
        edge(48, "6: sightings, 7: numbers of the ROW, 8: signs of THE TEXT", "station 'p;e01@0-9' = 2", "seen 0 0 1 = 1",
            "seen 0 0 1 = 2", "count 6 = 2", "alone = 0 | -1 0 -1", "count 7 = 3", "worth = 0 | 0 -1", "count 7 = 2",
            "fits = 0 | 0", "count 7 = 1", "most 0 = 0 |", "count 7 = 0", "sign 0 = 4", "end 3 = true", "count 8 = 3");
        edge(48, "7: numbers of the ROW, the most", "lockers '11111111' 1 = 8 | 0 1 2 3 4 5 6 7", "count 7 = 8", "row 7 = 7",
            "row 8 = !");
    }

    private static void rows() {
        edge(49, "NoSuchElementException: none such", "row 0 = !", "row -1 = !", "alone = 60", "row -1 = !", "row 0 = 0",
            "row 1 = 60", "row 2 = 0", "row 3 = !", "row MAX = !", "row MIN = !");
        edge(49, "a shorter ROW behind a longer one", "alone = 60", "row 2 = 0", "bench 0 = 0", "row 1 = 0", "row 2 = !",
            "open = 0", "row 0 = 0", "row 1 = !", "most 2 = 0", "row 0 = !");
        edge(49, "above the ints", "station 'p;e01@0-60' = 2",
            "plan 'a0@49;a0@50;a0@51;a0@52;a0@53;a0@54;a0@55;a0@56;a0@57;a0@58;a0@59' = 11", "chance 1 1 = 0",
            "row 0 = 31381059609", "row 1 = 100000000000", "row 2 = !");
    }
}
