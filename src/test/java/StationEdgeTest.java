/** The edges that promises 1 to 13 name: texts, the station, readers and settings. */
public final class StationEdgeTest extends Edges {
    private static final String FULL_HOUSE = "p;p;p;p;p;p;" + times(8, "e01@0-9", ";");

    public static void main(String[] args) {
        newObject();
        signs();
        ends();
        stationLines();
        stationEnds();
        stationSeventySix();
        stationTill();
        stationRoom();
        stationAllOrNothing();
        wishes();
        rules();
        plans();
        planRoom();
        people();
        errandsAndTrips();
        wishAndTrain();
        sheets();
        sheetRefusals();
        finish();
    }

    private static void newObject() {
        edge(1, "Nobody, no ERRANDS", "count 0 = 0", "count 1 = 0", "person 0 0 = !", "errand 0 0 = !", "wish 0 0 1 = -1",
            "stays = -2");
        edge(1, "a new object: TRAIN, no TRIPS, nothing to be undone, no sightings, no ROW, no TEXT", "count 2 = 60",
            "count 3 = 0", "count 4 = 0", "count 5 = 0", "count 6 = 0", "count 7 = 0", "count 8 = 0", "trip 0 0 = !",
            "undo = -1", "row 0 = !", "again 0 = false", "again 1 = false", "again 2 = false");
    }

    private static void signs() {
        edge(2, "of v the highest byte first", "sign 0x703b7021 = 4", "station = 2", "count 4 = 2", "sign 0x70213b70 = 4",
            "station = 2", "count 4 = 6");
        edge(2, "behind THE TEXT", "sign 0x703b703b = 4", "sign 0x70213f3f = 8", "end 6 = true", "station = 3", "count 4 = 4");
        edge(2, "how many it has", "sign 0 = 4", "end 1 = true", "sign 0 = 5", "sign -1 = 9", "count 8 = 9");
        String[] rows = new String[27];
        for (int k = 0; k < 20; k++) {
            rows[k] = "sign 0x703f3f3f = " + 4 * (k + 1);
        }
        System.arraycopy(new String[] {"sign 0 = -1", "count 8 = 80", "end 77 = true", "sign 0 = -1", "end 76 = true",
            "sign 0 = 80", "sign 0 = -1"}, 0, rows, 20, 7);
        edge(2, "Refused: there would be more than 80", rows);
        edge(2, "a sign above 127 is another one", "sign 0xf0000000 = 4", "end 1 = true", "station = -1", "sign 0x703bf000 = 4",
            "end 3 = true", "station = -3", "sign 0x70000000 = 4", "end 1 = true", "station = 1");
        edge(2, "a sign 0, one 255", "sign 0 = 4", "station = -1", "sign 0x70000000 = 4", "station = -2", "sign 0x70ffffff = 4",
            "station = -2", "sign -1 = 4", "rule = -1");
        edge(2, "a digit above 127 is none", "station 'p;e01@0-9' = 2", "sign 0xb1000000 = 4", "end 1 = true", "wishes 0 = -1",
            "sign 0x31000000 = 4", "end 1 = true", "wishes 0 = 1");
    }

    private static void ends() {
        edge(3, "its first n signs alone: true", "sign 0x703b7078 = 4", "end 3 = true", "count 8 = 3", "station = 2");
        edge(3, "all of them", "sign 0x703b703b = 4", "end 4 = true", "count 8 = 4", "end 0 = true", "count 8 = 0",
            "end 0 = true");
        edge(3, "false if it has not so many", "end 1 = false", "sign 0x703b703b = 4", "end 5 = false", "count 8 = 4",
            "end 3 = true", "end 4 = false", "count 8 = 3", "end MAX = false", "count 8 = 3", "station = 2");
        edge(3, "or n is below 0", "end -1 = false", "sign 0x703b703b = 4", "end -1 = false", "end MIN = false", "count 8 = 4");
    }

    private static void stationLines() {
        edge(4, "an empty one: nothing", "station '' = 0", "count 0 = 0", "station 'p' = 1", "station = 0", "count 0 = 1");
        edge(4, "how many LINES", "station 'p' = 1", "station 'p!;p' = 2", "station 'e01@0-9' = 1",
            "station 'e01@0-9;p;e01@0-9' = 3");
        edge(4, "76 signs, and all that there is room for", "station '" + signs(76, "p!;" + FULL_HOUSE.substring(2)) + "' = 14",
            "count 0 = 6", "count 1 = 8", "count 4 = 1");
        String[] texts = {"x", ";", " p", "P", "E01@0-9", "p;;p", "p!!", "p!p", "pp", "p ", "ex", "e0x", "e01x", "e01@x",
            "e01@1x", "e01@12x", "e01@1-x", "e01@1-2x", "e01@1-23x", "e01@1-2+x", "e01@1-2*x", "e01@1-2^x", "e01@1-2,p",
            "e 01@0-9", "e@1-2", "e1@1-2", "e011-2", "e01@-2", "e01@12", "e01-2"};
        int[] places = {0, 0, 0, 0, 0, 2, 2, 2, 1, 1, 1, 2, 3, 4, 5, 6, 6, 7, 8, 8, 8, 8, 7, 1, 1, 2, 3, 4, 6, 3};
        for (int k = 0; k < texts.length; k++) {
            edge(4, "-1 - p: the sign at p can't stand there", "station '" + texts[k] + "' = " + (-1 - places[k]), "station 'p;"
                + texts[k] + "' = " + (-3 - places[k]), "count 0 = 0", "count 1 = 0");
        }
    }

    private static void stationEnds() {
        String[] texts = {"p;", "p!;", "e", "e0", "e01", "e01@", "e01@1", "e01@12", "e01@1-", "e01@12-", "e01@1-2;",
            "e01@1-2+;", "e01@1-2^;"};
        for (String t : texts) {
            edge(4, "its end, if it ends too early", "station '" + t + "' = " + (-1 - t.length()), "station 'p;" + t + "' = "
                + (-3 - t.length()), "count 0 = 0", "count 1 = 0");
        }
    }

    /** LINES with a ; behind each, of n signs (64 to 76), with room for an ERRAND behind them, or for none. */
    private static String lines(int n) {
        StringBuilder b = new StringBuilder();
        for (int k = 0; k < 7; k++) {
            int rest = n - b.length() - 8 * (7 - k) - 18;
            b.append(rest > 0 ? "e01@00-9;" : "e01@0-9;");
        }
        int rest = n - b.length();
        int people = (rest + 2) / 3;
        for (int k = 0; k < people; k++) {
            b.append(k < rest - 2 * people ? "p!;" : "p;");
        }
        return signs(n, b.toString());
    }

    private static String atMost80(String text) {
        return text.length() > 80 ? text.substring(0, 80) : text;
    }

    private static void stationSeventySix() {
        String line = "e11@1-20+^";
        for (int k = 0; k <= 10; k++) {
            String cut = lines(76 - k) + line.substring(0, k);
            edge(4, "76, if it has more and the first 76 could go on or end", "station '" + atMost80(signs(76, cut)
                + line.substring(k) + "xxxxxxxxxxx") + "' = -77", "count 0 = 0", "count 1 = 0");
        }
        String full = signs(76, "p!;" + FULL_HOUSE.substring(2));
        edge(4, "76, if it has one sign more", "station '" + full + "x' = -77", "station '" + full + ";' = -77", "station '"
            + full + "+' = -77", "station '" + full + ";p;p' = -77", "count 0 = 0", "station '" + full + "' = 14");
        edge(4, "76 signs that could only go on: its end", "station '" + lines(76) + "' = -77", "station '" + lines(75)
            + "e' = -77");
        edge(4, "more than 76, but one of the first 76 can't stand there", "station '" + lines(75) + "xp' = -76", "station '"
            + lines(74) + "exp;p' = -76", "station 'x" + lines(76) + "' = -1", "station '" + lines(74) + "x;ppp' = -75");
        String room = signs(75, times(7, "e01@00-99;", "") + "p!;p;");
        edge(4, "p perhaps with ! behind the 76", "station '" + room + "p!' = -77", "station '" + room + "px' = -77",
            "station '" + room + "p' = 10");
    }

    private static void stationTill() {
        edge(4, "a TILL below FROM: at its last digit", "station 'e01@5-4' = -7", "station 'e01@5-04' = -8",
            "station 'e01@25-3' = -8", "station 'e01@25-24' = -9", "station 'e01@25-03;p' = -9", "station 'p;e01@25-3' = -10",
            "count 0 = 0");
        edge(4, "a TILL below FROM, and what stands behind it", "station 'e01@25-3x' = -8", "station 'e01@25-24x' = -9",
            "station 'e01@25-3;p' = -8", "station 'e01@25-3+^' = -8", "station 'e01@25-241' = -9", "station 'e01@25-300' = -10",
            "station 'e01@25-3;' = -8");
        edge(4, "(its digits among the first 76)", "station '" + signs(77, lines(68) + "e11@10-20") + "' = -76", "station '"
            + signs(77, lines(68) + "e11@10-1;") + "' = -76", "station '" + signs(77, lines(69) + "e11@5-40") + "' = -76",
            "station '" + signs(77, lines(69) + "e11@4-40") + "' = -77", "station '" + signs(77, lines(68) + "e11@09-9+")
            + "' = -77", "station '" + signs(77, lines(67) + "e11@10-09+") + "' = -76", "station '" + signs(77, lines(67)
            + "e11@10-10+") + "' = -77", "station '" + signs(78, lines(69) + "e11@10-20") + "' = -77", "count 1 = 0");
        edge(4, "its digits among the first 76, of 76 signs", "station '" + signs(76, lines(69) + "e11@5-4") + "' = -76",
            "station '" + signs(76, lines(69) + "e11@5-5") + "' = " + (lines(69).split(";").length + 1));
    }

    private static void stationRoom() {
        edge(4, "the first sign of a LINE for which there is no room: PEOPLE", "station 'p;p;p;p;p' = 5", "station 'p;p' = -3",
            "count 0 = 5", "station 'p;e01@0-9' = 2", "station 'p' = -1", "station 'p!' = -1", "station 'px' = -1",
            "station 'e01@0-9;p' = -9", "count 1 = 1");
        edge(4, "the first sign of a LINE for which there is no room: ERRANDS", "station '" + times(7, "e01@0-9", ";")
            + "' = 7", "station 'e01@0-9;e01@0-9' = -9", "count 1 = 7", "station 'e01@0-9;p' = 2", "station 'e01@0-9' = -1",
            "station 'ex' = -1", "station 'e' = -1", "station 'p;e01@9-1' = -3", "station 'p' = 1");
        edge(4, "no room for either", "station '" + FULL_HOUSE + "' = 14", "station 'p' = -1", "station 'e01@0-9' = -1",
            "station 'x' = -1", "station '' = 0", "count 0 = 6", "count 1 = 8");
    }

    private static void stationAllOrNothing() {
        edge(4, "Nothing of it comes, if a LINE can't: PEOPLE", "station 'p' = 1", "station 'p!;p!;x' = -7", "count 0 = 1",
            "count 4 = 0", "person 1 0 = !", "station 'p' = 1", "count 4 = 0", "person 1 0 = 0");
        edge(4, "Nothing of it comes, if a LINE can't: ERRANDS", "station 'e99@9-99*^;x' = -12", "count 1 = 0",
            "errand 0 0 = !", "station 'e01@2-3' = 1", "errand 0 0 = 0", "errand 0 1 = 1", "errand 0 2 = 2", "errand 0 3 = 3",
            "errand 0 4 = 0", "errand 0 5 = 0");
        edge(4, "Nothing of it comes, but what there was stays", "station 'p!;e12@3-45+^' = 2",
            "station 'e99@9-99*;e99@9-9x' = -18", "count 0 = 1", "count 1 = 1", "count 4 = 1", "errand 0 0 = 1",
            "errand 0 1 = 2", "errand 0 2 = 3", "errand 0 3 = 45", "errand 0 4 = 1", "errand 0 5 = 1");
        edge(4, "Nothing of it comes, if there are more than 76 signs", "station '" + lines(75) + "e0' = -77", "count 0 = 0",
            "count 1 = 0");
    }

    private static void wishes() {
        String three = "station 'p;p;e01@0-9;e01@0-9;e01@0-9' = 5";
        edge(5, "a digit for each ERRAND that is there: how many", three, "wishes '509' 1 = 3", "wish 1 0 1 = 5",
            "wish 1 1 1 = 0", "wish 1 2 1 = 9", "wish 0 0 1 = 1", "wish 0 1 1 = 1", "wish 0 2 1 = 1");
        edge(5, "for eight", "station '" + FULL_HOUSE + "' = 14", "wishes '98765432' 5 = 8", "wish 5 0 1 = 9", "wish 5 7 1 = 2",
            "wish 4 0 1 = 1", "wishes '987654321' 5 = -9", "wishes '9876543' 5 = -8");
        edge(5, "for none", "station 'p' = 1", "wishes '' 0 = 0", "wishes '1' 0 = -1", "wishes 'x' 0 = -1");
        edge(5, "its end, if there are more ERRANDS", three, "wishes '' 1 = -1", "wishes '5' 1 = -2", "wishes '50' 1 = -3",
            "wish 1 0 1 = 1", "wish 1 1 1 = 1");
        edge(5, "a sign more: at it", three, "wishes '5098' 1 = -4", "wishes '509x' 1 = -4", "wishes '509555' 1 = -4",
            "wish 1 0 1 = 1");
        edge(5, "the sign at p can't stand there", three, "wishes 'x09' 1 = -1", "wishes '5/9' 1 = -2", "wishes '50:' 1 = -3",
            "wishes '5x' 1 = -2", "wishes 'x' 1 = -1", "wishes '5;9' 1 = -2", "wish 1 0 1 = 1");
        edge(5, "-100: none such (asked first)", three, "wishes '509' 2 = -100", "wishes '509' -1 = -100",
            "wishes 'x' 2 = -100", "wishes '' 2 = -100", "wishes '5098' MAX = -100", "wishes '' MIN = -100", "wish 0 0 1 = 1",
            "wish 1 0 1 = 1");
        edge(5, "-100: nobody is there", "wishes '' 0 = -100", "wishes '5' 0 = -100");
    }

    private static void rules() {
        edge(6, "an empty one: none", "station 'p;e01@0-9' = 2", "plan 'a0@3' = 1", "rule 's' = 0", "trip 0 4 = 3",
            "rule '' = 0", "trip 0 4 = 1");
        String[] early = {"-", "1+", "1-", "1*", "1/", "1<", "1>", "1=", "(", "(1", "(1+", "((((1)))", "w<a+", "1*(2"};
        for (String t : early) {
            edge(6, "its end, if it ends too early", "rule '" + t + "' = " + (-1 - t.length()));
        }
        String[] texts = {"+1", "*1", "/1", "<1", "1++1", "1+*1", "1*/1", "1<<1", "1==1", "1<=1", "(+1)", "1)", "1,2", "1;",
            "a b", "(1<2>3)"};
        int[] places = {0, 0, 0, 0, 2, 2, 2, 2, 2, 2, 1, 1, 1, 1, 1, 4};
        for (int k = 0; k < texts.length; k++) {
            edge(6, "-1 - p: the sign at p can't stand there", "rule '" + texts[k] + "' = " + (-1 - places[k]));
        }
        String forty = signs(40, times(19, "w", "+") + "+-w");
        edge(6, "40 signs", "station 'p;e01@0-9' = 2", "plan 'a0@3' = 1", "wish 0 0 2 = 1", "rule '" + forty + "' = 0",
            "trip 0 4 = 36");
        edge(6, "40, if it has more and the first 40 could end", "rule '" + forty + "x' = -41", "rule '" + forty + "+' = -41",
            "rule '" + forty + "+w' = -41", "rule '" + forty + ")' = -41", "rule '" + forty + times(40, "+", "") + "' = -41");
        edge(6, "40, if it has more and the first 40 could go on", "rule '" + signs(40, times(20, "w+", "")) + "w' = -41",
            "rule '" + signs(40, times(19, "w+", "") + "-(") + "w)' = -41", "rule '" + times(40, "-", "")
            + "1' = -41", "rule '" + signs(40, times(19, "w+", "") + "12") + "3' = -41", "rule '" + signs(40, "(" + times(20,
            "w", "+")) + ")' = -41", "rule '" + signs(40, times(18, "w+", "") + "w<12") + "=3' = -41", "rule '" + signs(40,
            times(18, "w+", "") + "-123") + "4' = -41");
        edge(6, "40 signs that could only go on: its end", "rule '" + times(20, "w+", "") + "' = -41", "rule '" + times(40, "-",
            "") + "' = -41");
        edge(6, "more than 40, but one of the first 40 can't stand there", "rule '" + times(19, "w+", "") + "wxw' = -40",
            "rule '" + times(19, "w+", "") + "x+w' = -39", "rule 'x" + forty + "' = -1", "rule '" + times(18, "w+", "")
            + "1234w' = -40", "rule '" + times(18, "w+", "") + "w<w<w' = -40", "rule '((((" + times(17, "w+", "")
            + "-((w' = -40");
        edge(6, "what can't stand there leaves THE RULE", "station 'p;e01@0-9' = 2", "plan 'a0@3' = 1", "rule 's*2' = 0",
            "rule '1+' = -3", "trip 0 4 = 6", "rule '" + forty + "x' = -41", "trip 0 4 = 6", "rule '((((a' = -6",
            "trip 0 4 = 6");
    }

    private static void plans() {
        String two = "station 'p;p;e01@0-9;e12@0-9' = 4";
        edge(7, "an empty one: no TRIPS", two, "plan 'a0@1' = 1", "plan '' = 0", "count 3 = 0", "trip 0 0 = !");
        edge(7, "how many; LAWFUL or not", two, "plan 'a0@1;a0@1;b1@99' = 3", "trip 0 5 = 3", "trip 2 5 = 1", "count 3 = 3");
        edge(7, "a number (1 or 2 digits; the first MINUTE)", two, "plan 'a0@0;a0@9;a0@00;a0@07;a0@10;b1@99' = 6",
            "trip 0 2 = 0", "trip 1 2 = 9", "trip 2 2 = 0", "trip 3 2 = 7", "trip 4 2 = 10", "trip 5 2 = 99",
            "plan 'a0@100' = -6", "plan 'a0@000' = -6", "plan 'a0@-1' = -4", "plan 'a0@1a' = -5");
        String[] early = {"a", "a0", "a0@", "a0@1;", "a0@12;", "a0@1;b", "a0@1;b1", "a0@1;b1@"};
        for (String t : early) {
            edge(7, "its end, if it ends too early", two, "plan 'b1@5' = 1", "plan '" + t + "' = " + (-1 - t.length()),
                "count 3 = 1");
        }
        String[] texts = {";", "x", "0a@1", "aa@1", "a0;1", "a0@;", "a0@1,b1@2", "a0@1;;", "a0@1b1@2", "a0@1+", "A0@1",
            "a0@1;b1@x", "a@1", "0@1", "a01", "@1", "a1"};
        int[] places = {0, 0, 0, 1, 2, 3, 4, 5, 4, 4, 0, 8, 1, 0, 2, 0, 2};
        for (int k = 0; k < texts.length; k++) {
            edge(7, "-1 - p: the sign at p can't stand there", two, "plan '" + texts[k] + "' = " + (-1 - places[k]),
                "count 3 = 0");
        }
        edge(7, "a letter that is not there", two, "plan 'c0@1' = -1", "plan 'a0@1;c0@1' = -6", "plan 'g0@1' = -1",
            "station 'p' = 1", "plan 'c0@1' = 1", "plan 'd0@1' = -1");
        edge(7, "an ERRAND that is not there", two, "plan 'a2@1' = -2", "plan 'a9@1' = -2", "plan 'a/@1' = -2",
            "plan 'b0@1;a2@1' = -7", "station 'e01@0-9' = 1", "plan 'a2@1' = 1", "plan 'a3@1' = -2");
        edge(7, "the eighth ERRAND, and one that can't be", "station '" + FULL_HOUSE + "' = 14", "plan 'f7@1' = 1",
            "plan 'f8@1' = -2", "plan 'f:@1' = -2", "plan 'g7@1' = -1");
        edge(7, "nobody, no ERRANDS", "plan 'a0@1' = -1", "station 'p' = 1", "plan 'a0@1' = -2", "plan '' = 0");
        edge(7, "then it stays as it was", two, "plan 'a0@1;b1@2' = 2", "plan 'a1@3;a1@4;a1@5;x' = -16", "count 3 = 2",
            "trip 0 2 = 1", "trip 0 1 = 0", "trip 1 2 = 2", "trip 1 0 = 1", "count 5 = 1");
    }

    private static void planRoom() {
        String two = "station 'p;p;e01@0-9;e12@0-9' = 4";
        String twelve = signs(59, times(12, "a0@1", ";"));
        edge(7, "the first sign of a thirteenth TRIP", two, "plan '" + twelve + "' = 12", "plan '" + twelve + ";a0@1' = -61",
            "plan '" + twelve + ";x' = -61", "plan '" + twelve + ";' = -61", "plan '" + twelve + ";a' = -61", "plan '" + twelve
            + "x' = -60");
        String wide = signs(71, times(12, "a0@10", ";"));
        edge(7, "71 signs, 12 TRIPS", two, "plan '" + wide + "' = 12", "trip 11 2 = 10");
        edge(7, "72, if it has more and the first 72 could go on", two, "plan '" + wide + ";a0@1' = -73", "plan '" + wide
            + ";x' = -73", "plan '" + wide + ";;;;;;;;;' = -73", "plan '" + wide + ";' = -73", "count 3 = 0");
        edge(7, "more than 72, but one of the first 72 can't stand there", two, "plan '" + wide + "1;' = -72", "plan '" + wide
            + "xx' = -72", "plan '" + times(11, "a0@10", ";") + ";a0@1x;;' = -71", "plan '" + times(11, "a0@10", ";")
            + ";a0@x0;;' = -70", "plan 'x" + wide + ";' = -1", "plan '" + times(11, "a0@10", ";") + ";a2@10;;' = -68", "plan '"
            + times(11, "a0@10", ";") + ";c0@10;;' = -67");
    }

    private static void people() {
        edge(8, "NoSuchElementException: none such", "person 0 0 = !", "station 'p;p' = 2", "person 1 0 = 0", "person 2 0 = !",
            "person -1 0 = !", "person MAX 0 = !", "person MIN 0 = !");
        edge(8, "NoSuchElementException: another what", "station 'p' = 1", "person 0 -1 = !", "person 0 0 = 0",
            "person 0 5 = 0", "person 0 6 = !", "person 0 MAX = !", "person 0 MIN = !");
        edge(8, "0: 1 if SHY, 1: TRIPS", "station 'p;p!;e01@0-9' = 3", "plan 'b0@1;b0@2;a0@1' = 3", "person 0 0 = 0",
            "person 1 0 = 1", "person 0 1 = 1", "person 1 1 = 2");
        edge(8, "2: MINUTES away till TRAIN", "station 'p;e12@0-60' = 2", "plan 'a0@57' = 1", "person 0 2 = 3",
            "person 0 3 = 57", "plan 'a0@60;a0@99' = 2", "person 0 2 = 0", "person 0 3 = 60", "plan 'a0@59' = 1",
            "person 0 2 = 1");
        edge(8, "2: MINUTES away, by several TRIPS at once", "station 'p;e12@0-60' = 2", "plan 'a0@10;a0@12;a0@10' = 3",
            "person 0 2 = 6", "person 0 3 = 54");
        edge(8, "2, 3: away from 0 on till TRAIN", "station 'p;e99@0-60' = 2", "train 54 = 60", "plan 'a0@0;a0@27' = 2",
            "person 0 2 = 54", "person 0 3 = 0", "person 0 4 = 0");
        edge(8, "4: the most of these one behind another: ahead of, between, behind", "station 'p;e01@0-99' = 2",
            "person 0 4 = 60", "plan 'a0@40' = 1", "person 0 4 = 40", "plan 'a0@10;a0@50' = 2", "person 0 4 = 39",
            "plan 'a0@10;a0@5' = 2", "person 0 4 = 49", "plan 'a0@0' = 1", "person 0 4 = 59", "plan 'a0@59' = 1",
            "person 0 4 = 59", "train 99 = 60", "person 0 4 = 59", "plan '' = 0", "person 0 4 = 99");
        edge(8, "5: WORTH of its TRIPS", "station 'p;p;e01@0-9;e01@0-9' = 4", "wishes '53' 0 = 2", "plan 'a0@1;b0@2;a1@3' = 3",
            "person 0 5 = 8", "person 1 5 = 1", "rule '-w' = 0", "person 0 5 = -8", "plan '' = 0", "person 0 5 = 0");
    }

    private static void errandsAndTrips() {
        edge(9, "NoSuchElementException: none such", "errand 0 0 = !", "station 'e01@0-9;e01@0-9' = 2", "errand 1 0 = 0",
            "errand 2 0 = !", "errand -1 0 = !", "errand MAX 0 = !", "errand MIN 0 = !");
        edge(9, "NoSuchElementException: another what", "station 'e12@3-45+^' = 1", "errand 0 -1 = !", "errand 0 0 = 1",
            "errand 0 1 = 2", "errand 0 2 = 3", "errand 0 3 = 45", "errand 0 4 = 1", "errand 0 5 = 1", "errand 0 6 = 0",
            "errand 0 7 = !", "errand 0 MAX = !", "errand 0 MIN = !");
        edge(9, "6: how many TRIPS are for it", "station 'p;p;e01@0-9;e01@0-9' = 4", "plan 'a0@1;b0@1;a1@99' = 3",
            "errand 0 6 = 2", "errand 1 6 = 1", "strike 2 = 2", "errand 1 6 = 0");
        edge(10, "NoSuchElementException: none such", "trip 0 0 = !", "station 'p;e01@0-9' = 2", "trip 0 0 = !",
            "plan 'a0@1;a0@2' = 2", "trip 1 0 = 0", "trip 2 0 = !", "trip -1 0 = !", "trip MAX 0 = !", "trip MIN 0 = !",
            "strike 0 = 1", "trip 1 0 = !");
        edge(10, "NoSuchElementException: another what", "station 'p;p;e12@0-9' = 3", "plan 'b0@3' = 1", "trip 0 -1 = !",
            "trip 0 0 = 1", "trip 0 1 = 0", "trip 0 2 = 3", "trip 0 3 = 7", "trip 0 4 = 1", "trip 0 5 = 0", "trip 0 6 = !",
            "trip 0 MAX = !", "trip 0 MIN = !");
        edge(10, "3: the MINUTE in which one is back, above 99, too", "station 'p;e99@0-99' = 2", "plan 'a0@99;a0@0' = 2",
            "trip 0 3 = 126", "trip 1 3 = 27");
        edge(10, "LAWFUL: 0", "station 'p;e99@0-99' = 2", "plan 'a0@33' = 1", "trip 0 5 = 0", "shift 0 0 = 33");
    }

    private static void wishAndTrain() {
        String one = "station 'p;p;e01@0-9;e01@0-9' = 4";
        edge(11, "becomes v (0 .. 9): what it was", one, "wish 0 1 9 = 1", "wish 0 1 0 = 9", "wish 0 1 5 = 0", "wish 0 0 5 = 1",
            "wish 1 1 5 = 1");
        edge(11, "Refused: another v", one, "wish 0 1 10 = -1", "wish 0 1 -1 = -1", "wish 0 1 MAX = -1", "wish 0 1 MIN = -1",
            "wish 0 1 5 = 1");
        edge(11, "Refused: others, of PEOPLE, of ERRANDS", one, "wish 2 0 5 = -1", "wish -1 0 5 = -1", "wish 0 2 5 = -1",
            "wish 0 -1 5 = -1", "wish MAX 0 5 = -1", "wish 0 MIN 5 = -1", "wish 0 8 5 = -1", "wish 1 0 5 = 1",
            "wish 0 0 5 = 1");
        edge(12, "TRAIN becomes v (1 .. 99): what it was", "train 1 = 60", "train 99 = 1", "train 60 = 99", "count 2 = 60");
        edge(12, "Refused: another v", "train 0 = -1", "train 100 = -1", "train -1 = -1", "train MAX = -1", "train MIN = -1",
            "count 2 = 60");
    }

    private static void sheets() {
        String four = "station 'e01@0-9;e02@0-9;e03@0-9;e04@0-9' = 4";
        String[] each = {"errand 0 1 = ", "errand 1 1 = ", "errand 2 1 = ", "errand 3 1 = "};
        edge(13, "n entries f, f + step, ..: those behind it are 1: the sum of all", four, "sheet 2 3 2 3 = 16", each[0] + 2,
            each[1] + 5, each[2] + 8, each[3] + 1);
        edge(13, "n 0: all are 1", four, "sheet 2 0 5 0 = 4", each[0] + 1, each[3] + 1, "sheet 1 0 5 0 = 4",
            "sheet 0 0 5 0 = 4");
        edge(13, "n 4, and more entries than ERRANDS", four, "sheet 2 4 5 1 = 26", each[3] + 8, "sheet 2 5 2 1 = 14", each[3]
            + 5, "sheet 2 8 3 0 = 12", each[0] + 3);
        edge(13, "n 8 with eight ERRANDS, an ERRAND that comes later", "station '" + times(7, "e01@0-9", ";") + "' = 7",
            "sheet 2 8 1 1 = 28", "station 'e04@0-9' = 1", "errand 7 1 = 4", "sheet 2 8 1 1 = 36", "errand 7 1 = 8",
            "sheet 2 7 2 1 = 36", "errand 7 1 = 1", "errand 6 1 = 8");
        edge(13, "without ERRANDS", "sheet 2 8 5 5 = 0", "sheet 3 0 0 0 = -3", "sheet 0 -1 0 0 = -2");
        edge(13, "put to 1 .. 9", four, "sheet 2 4 -1 1 = 5", each[0] + 1, each[1] + 1, each[2] + 1, each[3] + 2,
            "sheet 2 4 8 1 = 35", each[0] + 8, each[1] + 9, each[2] + 9, each[3] + 9);
        edge(13, "of bytes the lowest bits, with their sign", four, "sheet 0 4 127 1 = 12", each[0] + 9, each[1] + 1, each[2]
            + 1, each[3] + 1, "sheet 0 4 255 1 = 5", each[0] + 1, each[1] + 1, each[2] + 1, each[3] + 2,
            "sheet 0 4 259 256 = 12", each[0] + 3, each[3] + 3, "sheet 0 1 384 0 = 4", "sheet 0 1 383 0 = 12",
            "sheet 0 4 -256 2 = 13");
        edge(13, "of shorts the lowest bits, with their sign", four, "sheet 1 2 32767 1 = 12", each[0] + 9, each[1] + 1,
            "sheet 1 4 65535 1 = 5", each[3] + 2, "sheet 1 4 0x10004 0x10000 = 16", each[0] + 4, each[3] + 4,
            "sheet 1 2 128 127 = 20", each[0] + 9, each[1] + 9, "sheet 1 1 255 0 = 12");
        edge(13, "ints wrap around", four, "sheet 2 3 MAX 1 = 12", each[0] + 9, each[1] + 1, each[2] + 1,
            "sheet 2 2 MIN -1 = 12", each[0] + 1, each[1] + 9, "sheet 2 4 5 0x40000000 = 16", each[0] + 5, each[1] + 9, each[2]
            + 1, each[3] + 1, "sheet 2 2 65540 -65536 = 15", each[0] + 9, each[1] + 4);
        edge(13, "bytes and shorts of ints that wrap around", four, "sheet 0 2 MAX 4 = 6", each[1] + 3, "sheet 0 2 MAX 6 = 8",
            each[0] + 1, each[1] + 5, "sheet 1 2 MAX 6 = 8", each[0] + 1, each[1] + 5);
    }

    private static void sheetRefusals() {
        String four = "station 'e01@0-9;e02@0-9;e03@0-9;e04@0-9' = 4";
        String[] each = {"errand 0 1 = ", "errand 1 1 = ", "errand 2 1 = ", "errand 3 1 = "};
        edge(13, "-2: n below 0 (of kinds 0 .. 2; nothing changes)", four, "sheet 0 -1 5 0 = -2", "sheet 1 -1 5 0 = -2",
            "sheet 2 -1 5 0 = -2", "sheet 2 MIN 5 0 = -2", each[0] + 1, each[1] + 2, each[2] + 3, each[3] + 4);
        edge(13, "-3: missing (all 1)", four, "sheet 3 4 5 0 = -3", each[0] + 1, each[1] + 1, each[2] + 1, each[3] + 1);
        edge(13, "-3: missing, whatever n below 9 is", four, "sheet 3 -1 5 0 = -3", each[3] + 1, "sheet 2 4 5 0 = 20",
            "sheet 3 MIN 5 0 = -3", each[0] + 1, "sheet 2 4 5 0 = 20", "sheet 3 8 5 0 = -3", each[0] + 1);
        edge(13, "NONE: another kind", four, "sheet 4 4 5 0 = -1", "sheet -1 4 5 0 = -1", "sheet MAX 4 5 0 = -1",
            "sheet MIN 4 5 0 = -1", each[0] + 1, each[3] + 4);
        edge(13, "NONE: n above 8", four, "sheet 0 9 5 0 = -1", "sheet 1 9 5 0 = -1", "sheet 2 9 5 0 = -1",
            "sheet 2 MAX 5 0 = -1", each[0] + 1, each[3] + 4, "sheet 2 8 5 0 = 20");
        edge(13, "(these first)", four, "sheet 4 -1 5 0 = -1", "sheet -1 -1 5 0 = -1", "sheet 4 9 5 0 = -1",
            "sheet 3 9 5 0 = -1", "sheet 3 MAX 5 0 = -1", each[0] + 1, each[1] + 2, each[2] + 3, each[3] + 4);
    }
}
