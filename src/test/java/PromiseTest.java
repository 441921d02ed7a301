import java.util.NoSuchElementException;

/** For each promise of the document: ordinary inputs, the edges that it names, and wrong inputs. */
public final class PromiseTest {
    private static int wrong = 0;
    private static OneWithTheBags x;
    private static int promise;

    private static void due(String call, long got, long want) {
        if (got != want) {
            wrong++;
            System.out.println("promise " + promise + ": " + call + " answered " + got + ", due is " + want);
        }
    }

    private static void due(String call, boolean got, boolean want) {
        due(call, got ? 1 : 0, want ? 1 : 0);
    }

    private static void text(String t) {
        x.end(0);
        StringBuilder b = new StringBuilder(t);
        while (b.length() % 4 != 0) {
            b.append('?');
        }
        for (int k = 0; k < b.length(); k += 4) {
            int v = b.charAt(k) << 24 | b.charAt(k + 1) << 16 | b.charAt(k + 2) << 8 | b.charAt(k + 3);
            due("sign for " + t, x.sign(v), k + 4);
        }
        due("end for " + t, x.end(t.length()), true);
    }

    private static void station(String t, int want) {
        text(t);
        due("station " + t, x.station(), want);
        due("text behind station " + t, x.count(8), 0);
    }

    private static void rule(String t, int want) {
        text(t);
        due("rule " + t, x.rule(), want);
        due("text behind rule " + t, x.count(8), 0);
    }

    private static void plan(String t, int want) {
        text(t);
        due("plan " + t, x.plan(), want);
        due("text behind plan " + t, x.count(8), 0);
    }

    private static void wishes(String t, int p, int want) {
        text(t);
        due("wishes " + t + " " + p, x.wishes(p), want);
        due("text behind wishes " + t, x.count(8), 0);
    }

    private static void afternoon(String t, int want) {
        text(t);
        due("afternoon " + t, x.afternoon(), want);
        due("text behind afternoon " + t, x.count(8), 0);
    }

    private static void parts(String t, int want) {
        text(t);
        due("parts " + t, x.parts(), want);
        due("text behind parts " + t, x.count(8), 0);
    }

    private static void turn(String t, int want) {
        text(t);
        due("turn " + t, x.turn(), want);
        due("text behind turn " + t, x.count(8), 0);
    }

    private static void lockers(String t, int v, int want) {
        text(t);
        due("lockers " + t + " " + v, x.lockers(v), want);
        due("text behind lockers " + t, x.count(8), 0);
    }

    private static void left(String t, int n, int v, int want) {
        text(t);
        due("left " + t + " " + n + " " + v, x.left(n, v), want);
        due("text behind left " + t, x.count(8), 0);
    }

    private static void row(long... want) {
        due("numbers of the row", x.count(7), want.length);
        for (int i = 0; i < want.length && i < x.count(7); i++) {
            due("row(" + i + ")", x.row(i), want[i]);
        }
        noRow(want.length);
        noRow(-1);
    }

    private static void noRow(int i) {
        try {
            x.row(i);
            due("row(" + i + ") throws", 0, 1);
        } catch (NoSuchElementException e) {
            due("row(" + i + ") throws", 1, 1);
        }
    }

    private static void person(int p, int what, int want) {
        due("person(" + p + ", " + what + ")", x.person(p, what), want);
    }

    private static void noPerson(int p, int what) {
        try {
            x.person(p, what);
            due("person(" + p + ", " + what + ") throws", 0, 1);
        } catch (NoSuchElementException e) {
            due("person throws", 1, 1);
        }
    }

    private static void errand(int e, int... want) {
        for (int what = 0; what < want.length; what++) {
            due("errand(" + e + ", " + what + ")", x.errand(e, what), want[what]);
        }
    }

    private static void noErrand(int e, int what) {
        try {
            x.errand(e, what);
            due("errand(" + e + ", " + what + ") throws", 0, 1);
        } catch (NoSuchElementException ex) {
            due("errand throws", 1, 1);
        }
    }

    private static void trip(int i, int what, int want) {
        due("trip(" + i + ", " + what + ")", x.trip(i, what), want);
    }

    private static void noTrip(int i, int what) {
        try {
            x.trip(i, what);
            due("trip(" + i + ", " + what + ") throws", 0, 1);
        } catch (NoSuchElementException ex) {
            due("trip throws", 1, 1);
        }
    }

    private static void fresh(int p, String station) {
        promise = p;
        x = new OneWithTheBags();
        if (!station.isEmpty()) {
            station(station, station.split(";").length);
        }
    }

    public static void main(String[] args) {
        newObject();
        signs();
        stations();
        stationErrors();
        wishesAndRule();
        ruleErrors();
        plans();
        readers();
        settings();
        sheets();
        mayGoPair();
        strikeShift();
        afternoons();
        undos();
        whatAPlanIs();
        toBePutIn();
        mostOpenMend();
        partsAndTurns();
        bags();
        late();
        seen();
        lateMinutes();
        journeys();
        kept();
        System.out.println(wrong == 0 ? "all promises hold" : wrong + " answers are not as due");
        if (wrong != 0) {
            System.exit(1);
        }
    }

    private static void newObject() {
        fresh(1, "");
        due("NONE", OneWithTheBags.NONE, -1);
        int[] want = {0, 0, 60, 0, 0, 0, 0, 0, 0};
        for (int what = 0; what < want.length; what++) {
            due("count(" + what + ")", x.count(what), want[what]);
        }
        noPerson(0, 0);
        noErrand(0, 0);
        noTrip(0, 0);
        noRow(0);
    }

    private static void signs() {
        fresh(2, "");
        for (int k = 1; k <= 20; k++) {
            due("sign", x.sign(0x61626364), 4 * k);
        }
        due("sign 81", x.sign(0), -1);
        due("count(8)", x.count(8), 80);
        promise = 3;
        due("end(81)", x.end(81), false);
        due("end(-1)", x.end(-1), false);
        due("end(80)", x.end(80), true);
        due("end(77)", x.end(77), true);
        due("sign above 80", x.sign(0), -1);
        due("count(8)", x.count(8), 77);
        due("end(3)", x.end(3), true);
        due("end(4)", x.end(4), false);
        due("end(0)", x.end(0), true);
        due("count(8)", x.count(8), 0);
        promise = 2;
        // the highest byte first: "p!;p" is read as that
        due("sign", x.sign('p' << 24 | '!' << 16 | ';' << 8 | 'p'), 4);
        due("station", x.station(), 2);
        due("shy", x.count(4), 1);
        // a byte above 127 has no sign
        due("sign", x.sign(0xF0000000), 4);
        x.end(1);
        due("station", x.station(), -1);
    }

    private static void stations() {
        fresh(4, "");
        station("", 0);
        station("p;p!;e01@0-99;e99@7-40+;e12@05-5*^;e34@8-60^;p", 7);
        due("people", x.count(0), 3);
        due("errands", x.count(1), 4);
        due("shy", x.count(4), 2);
        errand(0, 0, 1, 0, 99, 0, 0, 0);
        errand(1, 9, 9, 7, 40, 1, 0, 0);
        errand(2, 1, 2, 5, 5, 2, 1, 0);
        errand(3, 3, 4, 8, 60, 0, 1, 0);
        // nothing of it comes, if a LINE can't
        station("p;e11@0-9;p;p;p;p", -15);
        station("p!;p;q", -6);
        due("people", x.count(0), 3);
        due("errands", x.count(1), 4);
        due("shy", x.count(4), 2);
        station("p!;p!;p!", 3);
        due("people", x.count(0), 6);
        due("shy", x.count(4), 2 + 8 + 16 + 32);
        station("p", -1);
        station("e01@0-9;e01@0-9;e01@0-9;e01@0-9;e01@0-9", -33);
        station("e01@0-9;e01@0-9;e01@0-9;e01@0-9", 4);
        station("e", -1);
        due("errands", x.count(1), 8);
    }

    private static void stationErrors() {
        fresh(4, "");
        String[] texts = {"x", ";", "p;", "p;;p", "p!!", "p!p", "pp", "e", "ex", "e1", "e10@1-2", "e11", "e11x", "e11@",
            "e11@x", "e11@1", "e11@123-4", "e11@1-", "e11@1-x", "e11@1-123", "e11@25-3", "e11@25-24", "e11@25-3x",
            "e11@1-2+*", "e11@1-2^+", "e11@1-2^^", "e11@1-2 ", "e11@1-2;", "P", "e11@25-2;p", "e11@5-4+"};
        int[] places = {0, 0, 2, 2, 2, 2, 1, 1, 1, 2, 2, 3, 3, 4, 4, 5, 6, 6, 6, 8, 7, 8, 7, 8, 8, 8, 7, 8, 0, 7, 6};
        for (int k = 0; k < texts.length; k++) {
            station(texts[k], -1 - places[k]);
        }
        due("people", x.count(0), 0);
        due("errands", x.count(1), 0);
        String five = "e11@10-20;e11@10-20;e11@10-20;e11@10-20;e11@10-20;";
        // 76 signs, and more
        String full = five + "e11@10-20+^;p;p;p;p;p;p!";
        due("signs", full.length(), 74);
        station(full + ";e", -77);
        String just = five + "e11@10-20+^;e11@10-20+^;p!";
        due("signs", just.length(), 76);
        station(just + "x", -77);
        station(just + ";p", -77);
        station(five + "e11@10-20+^;p;p;p;p;p;p!;x", -76);
        // what the first 76 tell goes first
        station(five + "e11@10-20+^;p;p;p;p;p;p!;e11@", -77);
        // a TILL of which the first 76 tell only one digit, below FROM
        String late = five + "p!;p!;p!;p!;p!;p;e11@10-";
        due("signs", late.length(), 74);
        station(late + "2;", -75);
        station(late + "20;", -77);
        station(late + "09;", -76);
        String later = five + "p!;p!;p!;p!;p!;p!;e11@10-";
        due("signs", later.length(), 75);
        station(later + "2;", -76);
        station(later + "2", -76);
        station(later + "20", -76);
        due("people", x.count(0), 0);
        station(just, 8);
    }

    private static void wishesAndRule() {
        fresh(5, "p;p;e11@0-9;e11@0-9;e11@0-9");
        due("wish at first", x.wish(0, 2, 1), 1);
        wishes("509", 1, 3);
        due("wish", x.wish(1, 0, 5), 5);
        due("wish", x.wish(1, 1, 0), 0);
        due("wish", x.wish(1, 2, 9), 9);
        due("wish of the other", x.wish(0, 0, 1), 1);
        wishes("12", 1, -3);
        wishes("", 1, -1);
        wishes("1234", 1, -4);
        wishes("1x3", 1, -2);
        wishes("123", 2, -100);
        wishes("x", -1, -100);
        due("wish stays", x.wish(1, 0, 5), 5);
        station("e11@0-9;p", 2);
        due("wish for a new errand", x.wish(1, 3, 1), 1);
        due("wish of a new one", x.wish(2, 0, 1), 1);
        x = new OneWithTheBags();
        station("p", 1);
        wishes("", 0, 0);
        wishes("1", 0, -1);
        promise = 6;
        fresh(6, "p;p!;p;e23@0-60;e11@0-60");
        plan("a0@4;b0@4;a0@20;c1@7", 4);
        wishes("70", 0, 2);
        int[] first = {1, 2, 3, 4};
        due("trips", first.length, 4);
        String[] rules = {"", "w", "a", "s", "n", "i", "e", "y", "z", "12", "007", "w+a*s", "(w+a)*s", "7-3-2", "7/2", "0-7/2",
            "-7/2", "7/0", "100/7/2", "2*3/4", "--w", "---w", "1--1", "2*-3", "w<a", "a<w", "w>a", "a>w", "w=7", "(1<2)<3",
            "1+1=2", "(w=7)*10+(s=4)", "999*999", "-999*999", "((((w))))", "1<2+3", "999*999*999*999/999/999",
            "0-w", "(w)*(a)"};
        int[] of = {7, 7, 7, 4, 1, 0, 0, 0, 0, 12, 7, 35, 56, 2, 3, -3, -3, 0, 7, 1, 7, -7, 2, -6, 0, 0, 0, 0, 1, 1, 1, 11,
            999, -999, 7, 1, clamp(999 * 999 * 999 * 999 / 999 / 999), -7, 49};
        for (int k = 0; k < rules.length; k++) {
            rule(rules[k], 0);
            trip(0, 4, of[k]);
        }
        rule("z*100+y*10+n", 0);
        trip(0, 4, 1);
        trip(1, 4, 11);
        trip(2, 4, 100);
        trip(3, 4, 0);
        rule("i*100+e*10+(s=7)", 0);
        trip(3, 4, 211);
        rule("x", -1);
        trip(3, 4, 211);
        rule("", 0);
        trip(3, 4, 1);
    }

    private static int clamp(int v) {
        return Math.max(-999, Math.min(999, v));
    }

    private static void ruleErrors() {
        fresh(6, "");
        String[] texts = {"x", "+w", "w+", "w++w", "w w", "1234", "w<", "w<a<s", "w=a>s", "(w", "()", "(w))", "w)", "(((((w)))))",
            "((((w)))", "ww", "1w", "w1", "(1<2<3)", "-", "w-", "w*/a", "<w", "w(", "W", "-+w", "12.5"};
        int[] places = {0, 0, 2, 2, 1, 3, 2, 3, 3, 2, 1, 3, 1, 4, 8, 1, 1, 1, 4, 1, 2, 2, 0, 1, 0, 1, 2};
        for (int k = 0; k < texts.length; k++) {
            rule(texts[k], -1 - places[k]);
        }
        String forty = "w+w+w+w+w+w+w+w+w+w+w+w+w+w+w+w+w+w+w+-w";
        due("signs", forty.length(), 40);
        rule(forty, 0);
        rule(forty + "+", -41);
        rule(forty + "x", -41);
        rule(forty + "+w", -41);
        rule(forty.substring(0, 38) + "w+w", -41);
        rule(forty.substring(0, 38) + ")w+", -39);
        rule("----------------------------------------", -41);
        rule("---------------------------------------1", 0);
        rule("---------------------------------------12", -41);
    }

    private static void plans() {
        fresh(7, "p;p;e11@0-9;e22@0-60");
        plan("a0@0", 1);
        trip(0, 0, 0);
        trip(0, 1, 0);
        trip(0, 2, 0);
        plan("b1@07;a0@99", 2);
        trip(0, 0, 1);
        trip(0, 1, 1);
        trip(0, 2, 7);
        trip(1, 2, 99);
        String[] texts = {"c0@1", "a2@1", "a", "a0", "a0@", "a0@x", "a0x", "a0@123", "a0@1;", "a0@1;;", "g0@1", ";", "ax", "a0@1 ", "A0@1"};
        int[] places = {0, 1, 1, 2, 3, 3, 2, 5, 5, 5, 0, 0, 1, 4, 0};
        for (int k = 0; k < texts.length; k++) {
            plan(texts[k], -1 - places[k]);
        }
        due("trips", x.count(3), 2);
        StringBuilder twelve = new StringBuilder("a0@1");
        for (int k = 1; k < 12; k++) {
            twelve.append(";b1@").append(k);
        }
        plan(twelve.toString(), 12);
        trip(11, 2, 11);
        plan(twelve + ";", -2 - twelve.length());
        plan(twelve + ";a0@1", -2 - twelve.length());
        plan(twelve + ";x", -2 - twelve.length());
        String wide = "a0@10;a0@11;a0@12;a0@13;a0@14;a0@15;a0@16;a0@17;a0@18;a0@19;a0@20;a0@21";
        due("signs", wide.length(), 71);
        plan(wide, 12);
        plan(wide + ";", -73);
        plan(wide + ";a", -73);
        plan(wide + "1", -72);
        plan("", 0);
        due("trips", x.count(3), 0);
    }

    private static void readers() {
        fresh(8, "p;p!;p;e25@0-60;e11@0-60+;e03@0-9^");
        plan("a0@0;a0@15;b0@0;a1@58;c2@0", 5);
        wishes("321", 0, 3);
        int[][] want = {{0, 3, 20, 40, 34, 8}, {1, 1, 9, 51, 51, 1}, {0, 1, 3, 57, 57, 1}};
        for (int p = 0; p < 3; p++) {
            for (int what = 0; what < 6; what++) {
                person(p, what, want[p][what]);
            }
        }
        noPerson(3, 0);
        noPerson(-1, 0);
        noPerson(0, 6);
        noPerson(0, -1);
        promise = 9;
        errand(0, 2, 5, 0, 60, 0, 0, 3);
        errand(1, 1, 1, 0, 60, 1, 0, 1);
        errand(2, 0, 3, 0, 9, 0, 1, 1);
        noErrand(3, 0);
        noErrand(-1, 0);
        noErrand(0, 7);
        noErrand(0, -1);
        promise = 10;
        int[] back = {9, 24, 9, 61, 3};
        int[] worth = {3, 3, 1, 2, 1};
        int[] law = {0, 0, 0, 1, 0};
        for (int i = 0; i < 5; i++) {
            trip(i, 3, back[i]);
            trip(i, 4, worth[i]);
            trip(i, 5, law[i]);
        }
        noTrip(5, 0);
        noTrip(-1, 0);
        noTrip(0, 6);
        noTrip(0, -1);
        // (1) .. (5), the first that is not so
        fresh(10, "p;p;p!;e11@5-9+;e32@0-60+;e11@5-60*;e01@50-99");
        plan("a0@3", 1);
        trip(0, 5, 2);
        plan("a0@4", 1);
        trip(0, 5, 0);
        plan("a0@7", 1);
        trip(0, 5, 0);
        plan("a0@8", 1);
        trip(0, 5, 2);
        plan("a0@58", 1);
        trip(0, 5, 1);
        plan("a3@59;b3@60", 2);
        trip(0, 5, 0);
        trip(1, 5, 1);
        plan("a0@4;a2@6;a2@10;a2@7", 4);
        trip(0, 5, 3);
        trip(1, 5, 3);
        trip(2, 5, 0);
        plan("a0@4;a2@7", 2);
        trip(0, 5, 0);
        trip(1, 5, 0);
        plan("a0@4;b1@6", 2);
        trip(0, 5, 4);
        trip(1, 5, 4);
        plan("a0@4;b1@7", 2);
        trip(0, 5, 0);
        plan("a0@4;b0@4;b2@8", 3);
        trip(0, 5, 0);
        trip(1, 5, 0);
        plan("a0@4;b0@5", 2);
        trip(0, 5, 4);
        plan("a0@4;b2@4", 2);
        trip(0, 5, 0);
        plan("c0@4;c0@4", 2);
        trip(0, 5, 3);
        plan("c0@4;a0@5", 2);
        trip(0, 5, 4);
        plan("c0@4;a2@4", 2);
        trip(0, 5, 5);
        plan("c0@4;a0@4", 2);
        trip(0, 5, 0);
        trip(1, 5, 0);
    }

    private static void settings() {
        fresh(11, "p;p;e11@0-9");
        due("wish", x.wish(0, 0, 9), 1);
        due("wish", x.wish(0, 0, 0), 9);
        due("wish", x.wish(0, 0, 10), -1);
        due("wish", x.wish(0, 0, -1), -1);
        due("wish", x.wish(2, 0, 1), -1);
        due("wish", x.wish(-1, 0, 1), -1);
        due("wish", x.wish(0, 1, 1), -1);
        due("wish", x.wish(0, -1, 1), -1);
        due("wish", x.wish(0, 0, 4), 0);
        due("wish", x.wish(1, 0, 4), 1);
        promise = 12;
        due("train", x.train(0), -1);
        due("train", x.train(100), -1);
        due("train", x.train(Integer.MIN_VALUE), -1);
        due("train", x.train(99), 60);
        due("train", x.train(1), 99);
        due("count(2)", x.count(2), 1);
    }

    private static void sheets() {
        fresh(13, "e11@0-9;e12@0-9;e13@0-9;e14@0-9");
        due("sheet", x.sheet(2, 3, 2, 3), 2 + 5 + 8 + 1);
        errand(0, 1, 2);
        errand(1, 1, 5);
        errand(2, 1, 8);
        errand(3, 1, 1);
        due("sheet", x.sheet(2, 4, 8, 3), 8 + 9 + 9 + 9);
        due("sheet", x.sheet(2, 8, 3, -1), 3 + 2 + 1 + 1);
        due("bytes", x.sheet(0, 4, 254, 3), 1 + 1 + 4 + 7);
        due("bytes", x.sheet(0, 2, 0x7F05, 0x100), 5 + 5 + 1 + 1);
        due("shorts", x.sheet(1, 3, 0x10003, 0x7FFF), 3 + 1 + 1 + 1);
        due("shorts", x.sheet(1, 2, 254, 3), 9 + 9 + 1 + 1);
        due("ints", x.sheet(2, 2, Integer.MAX_VALUE, 1), 9 + 1 + 1 + 1);
        due("kind", x.sheet(4, 0, 0, 0), -1);
        due("kind", x.sheet(-1, 0, 0, 0), -1);
        due("kind", x.sheet(4, -1, 0, 0), -1);
        due("n", x.sheet(0, 9, 0, 0), -1);
        due("n", x.sheet(3, 9, 0, 0), -1);
        due("n", x.sheet(0, -1, 0, 0), -2);
        errand(0, 1, 9);
        due("missing", x.sheet(3, -1, 0, 0), -3);
        errand(0, 1, 1);
        due("none", x.sheet(1, 0, 5, 5), 4);
    }

    private static void mayGoPair() {
        fresh(14, "p;p;p!;e11@5-30+;e32@0-60+;e11@5-60^;e01@50-99");
        due("may", x.may(0, 0, 4), 0);
        due("may", x.may(0, 0, 3), 2);
        due("may", x.may(0, 0, 58), 1);
        due("may", x.may(2, 0, 4), 5);
        int[][] others = {{-1, 0, 4}, {3, 0, 4}, {0, -1, 4}, {0, 4, 4}, {0, 0, -1}, {0, 0, 100}};
        for (int[] o : others) {
            due("may others", x.may(o[0], o[1], o[2]), -1);
            due("go others", x.go(o[0], o[1], o[2]), -1);
        }
        promise = 15;
        due("go", x.go(0, 0, 4), 1);
        due("go", x.go(0, 0, 4), -2);
        due("may", x.may(0, 2, 6), 3);
        due("may", x.may(1, 1, 6), 4);
        due("may", x.may(1, 0, 4), 0);
        due("go", x.go(2, 0, 4), 2);
        due("may", x.may(1, 0, 4), 6);
        // it sees them from the errand, but not from its way
        due("may", x.may(1, 2, 5), 6);
        due("may", x.may(1, 2, 7), 0);
        due("count(3)", x.count(3), 2);
        fresh(14, "p;e03@0-60^;e13@0-60^;e03@0-60");
        due("may", x.may(0, 0, 0), 0);
        due("may", x.may(0, 1, 0), 6);
        due("may", x.may(0, 2, 0), 6);
        // where they are not watched now, nothing is lost
        plan("a2@0", 1);
        due("may", x.may(0, 2, 0), 3);
        fresh(14, "p;p;e01@0-99");
        plan("a0@0;a0@1;a0@2;a0@3;a0@4;a0@5;a0@6;a0@7;a0@8;a0@9;a0@10;a0@11", 12);
        due("may", x.may(0, 0, 20), 7);
        due("may", x.may(1, 0, 11), 6);
        due("may", x.may(0, 0, 11), 3);
        due("go", x.go(0, 0, 20), -2);
        due("strike", x.strike(0), 11);
        promise = 16;
        fresh(16, "p;p;p!;p!;e11@0-60+;e11@0-60+");
        int[][] wrongPairs = {{0, 0, 0, 0}, {-1, 0, 0, 0}, {0, 4, 0, 0}, {4, 0, 0, 0}, {0, 1, 2, 0}, {0, 1, -1, 0}, {0, 1, 0, -1}, {0, 1, 0, 100}};
        for (int[] w : wrongPairs) {
            due("pair", x.pair(w[0], w[1], w[2], w[3]), -1);
        }
        due("pair", x.pair(2, 0, 0, 0), 2);
        trip(0, 0, 2);
        trip(1, 0, 0);
        due("pair", x.pair(1, 3, 1, 2), -2);
        due("pair", x.pair(1, 3, 0, 0), -2);
        due("pair", x.pair(1, 2, 0, 3), 4);
        due("pair", x.pair(2, 3, 0, 58), -2);
        due("pair", x.pair(2, 3, 0, 57), 6);
        due("count(3)", x.count(3), 6);
        fresh(16, "p;p;e01@0-99");
        due("pair", x.pair(0, 1, 0, 0), -2);
        station("e01@0-99^", 1);
        due("pair", x.pair(0, 1, 1, 0), 2);
        plan("a0@0;a0@1;a0@2;a0@3;a0@4;a0@5;a0@6;a0@7;a0@8;a0@9;a0@10", 11);
        due("pair", x.pair(0, 1, 1, 20), -2);
        due("count(3)", x.count(3), 11);
        due("strike", x.strike(10), 10);
        due("pair", x.pair(0, 1, 1, 20), 12);
        // where they are not watched now, nothing is lost
        plan("a0@40;b0@40", 2);
        due("pair", x.pair(0, 1, 0, 20), -2);
        due("pair", x.pair(0, 1, 1, 20), 4);
        due("may", x.may(0, 0, 30), 0);
        due("may", x.may(0, 0, 40), 3);
    }

    private static void strikeShift() {
        fresh(17, "p;p;e11@5-30+;e32@0-60");
        plan("a0@4;b1@0;a1@20", 3);
        due("strike", x.strike(3), -1);
        due("strike", x.strike(-1), -1);
        due("strike", x.strike(0), 2);
        trip(0, 0, 1);
        trip(1, 2, 20);
        promise = 18;
        plan("a0@4;b0@10;a1@20", 3);
        due("shift", x.shift(0, 1), 5);
        due("shift", x.shift(0, -1), 4);
        due("shift", x.shift(0, -1), -2);
        due("shift", x.shift(0, -5), -2);
        due("shift", x.shift(0, 96), -2);
        due("shift", x.shift(0, 0), 4);
        due("shift", x.shift(0, 100), -1);
        due("shift", x.shift(0, -100), -1);
        due("shift", x.shift(3, 0), -1);
        due("shift", x.shift(-1, 0), -1);
        due("shift", x.shift(0, 4), -2);
        due("shift to the same", x.shift(0, 6), 10);
        due("shift", x.shift(0, 8), -2);
        trip(0, 2, 10);
        // whether the bags are watched is not asked
        due("alone", x.alone(), 3);
        plan("a0@0", 1);
        due("shift of an unlawful one", x.shift(0, 0), -2);
        due("shift of an unlawful one", x.shift(0, 4), 4);
        plan("a1@99", 1);
        due("shift", x.shift(0, -99), 0);
        due("shift below 0", x.shift(0, -1), -2);
        trip(0, 2, 0);
        due("shift", x.shift(0, 99), -2);
        due("shift", x.shift(0, 52), 52);
        due("shift", x.shift(0, 1), -2);
    }

    private static void afternoons() {
        fresh(19, "p;p;e11@5-30+;e32@0-60");
        wishes("32", 0, 2);
        afternoon("", 0);
        row(0, 0);
        due("undo", x.count(5), 0);
        afternoon("ga0@4;s0+2;gb0@10;x0", 4);
        row(0, 1);
        due("undo", x.count(5), 1);
        trip(0, 2, 10);
        afternoon("ga1@0;ga1@4;x0", 1);
        row(1, 3);
        due("trips", x.count(3), 2);
        due("undo", x.count(5), 2);
        afternoon("x5", 0);
        row(1, 3);
        due("undo", x.count(5), 2);
        afternoon("gf9@99", 0);
        row(1, 3);
        afternoon("s0-10", 0);
        row(1, 3);
        afternoon("s0-5", 1);
        row(0, 3);
        trip(0, 2, 5);
        String[] texts = {"y", "g", "gg", "ga", "gax", "ga1", "ga1x", "ga1@", "ga1@123", "x", "xa", "x123", "x1;", "s", "s1", "s1x",
            "s1+", "s1-x", "s1+123", "s123", "x1,", ";", "gA0@1"};
        int[] places = {0, 1, 1, 2, 2, 3, 3, 4, 6, 1, 1, 3, 3, 1, 2, 2, 3, 3, 5, 3, 2, 0, 1};
        for (int k = 0; k < texts.length; k++) {
            afternoon(texts[k], -1 - places[k]);
        }
        afternoon("x0;y", -4);
        due("nothing is done", x.count(3), 2);
        row(0, 3);
        StringBuilder many = new StringBuilder("s0+0");
        for (int k = 0; k < 11; k++) {
            many.append(";s0+0");
        }
        due("signs", many.length(), 59);
        afternoon(many.toString(), 12);
        afternoon(many + "0", 12);
        afternoon(many + "0;", -61);
        afternoon(many + ";", -61);
        afternoon(many + ";x", -61);
        afternoon(many + "01", -61);
        afternoon(many + "x1", -60);
    }

    private static void undos() {
        fresh(20, "p;p;p;e01@0-60");
        due("undo", x.undo(), -1);
        due("go", x.go(0, 0, 0), 1);
        due("go", x.go(0, 0, 1), 2);
        due("pair", x.pair(0, 1, 0, 5), 4);
        due("strike", x.strike(0), 3);
        due("shift", x.shift(0, 1), 2);
        plan("", 0);
        due("count(5)", x.count(5), 6);
        due("refused", x.go(0, 0, 60), -2);
        due("refused", x.strike(0), -1);
        due("refused", x.shift(0, 0), -1);
        plan("x", -1);
        due("count(5)", x.count(5), 6);
        due("undo", x.undo(), 5);
        due("trips", x.count(3), 3);
        due("undo", x.undo(), 4);
        trip(0, 2, 1);
        due("undo", x.undo(), 3);
        trip(0, 2, 0);
        due("trips", x.count(3), 4);
        due("undo", x.undo(), 2);
        due("trips", x.count(3), 2);
        afternoon("x0;x0;x0", 2);
        due("count(5)", x.count(5), 3);
        due("undo", x.undo(), 2);
        due("trips", x.count(3), 2);
        station("", 0);
        due("count(5)", x.count(5), 2);
        station("x", -1);
        due("count(5)", x.count(5), 2);
        due("keep", x.keep(0), true);
        due("count(5)", x.count(5), 2);
        due("again", x.again(1), false);
        due("count(5)", x.count(5), 2);
        due("again", x.again(0), true);
        due("count(5)", x.count(5), 0);
        due("strike", x.strike(0), 1);
        station("p", 1);
        due("undo", x.undo(), -1);
        plan("", 0);
        for (int k = 0; k < 20; k++) {
            plan("a0@" + k, 1);
        }
        due("count(5)", x.count(5), 15);
        for (int k = 14; k >= 0; k--) {
            due("undo", x.undo(), k);
            trip(0, 2, k + 4);
        }
        due("undo", x.undo(), -1);
    }

    private static void whatAPlanIs() {
        fresh(21, "p;p;e11@0-60;e12@0-60+^;e32@0-60*");
        due("alone", x.alone(), 0);
        row(-1, 0, -1);
        plan("a0@0;b1@0;a0@10;b0@8;a0@20;b0@20", 6);
        // a away 0..2, 10..12, 20..22; b away 0..3 (sees in 1, 2), 8..10, 20..22
        due("alone", x.alone(), 5);
        row(0, 3, 20);
        promise = 22;
        due("bench", x.bench(1), 0);
        row(2, 0);
        due("bench", x.bench(0), 0);
        row(0, 3);
        due("bench", x.bench(3), 1);
        row(0, 2);
        due("bench", x.bench(9), 1);
        row(0, 0);
        due("bench", x.bench(59), 3);
        due("bench", x.bench(60), -1);
        due("bench", x.bench(-1), -1);
        plan("a1@0;a2@0", 2);
        due("several at once", x.bench(0), 2);
        row(0, 1);
        due("several at once", x.bench(1), 2);
        row(1, 0);
        due("several at once", x.bench(3), 2);
        row(0, 0);
        promise = 23;
        plan("a0@0;b1@58;b1@0;a2@1", 4);
        wishes("543", 0, 3);
        due("worth", x.worth(), 5 + 1 + 1 + 3);
        row(3, 0);
        plan("a0@0;b1@58", 2);
        due("worth", x.worth(), 6);
        row(1, 1);
        promise = 24;
        due("stays", x.stays(), 1);
        row(58, 0, 57);
        plan("", 0);
        due("stays", x.stays(), 0);
        row(60, 0, 60);
        fresh(24, "");
        due("stays", x.stays(), -2);
        noRow(0);
        promise = 25;
        due("stuck", x.stuck(), 0);
        row(-1, -1);
        fresh(25, "p;p;p;e11@0-60;e99@0-60");
        due("stuck", x.stuck(), 0);
        row(-1, -1);
        plan("a0@0;b0@0;a0@3;c0@3;a0@10;c0@10;a0@13;c0@13", 8);
        due("stuck", x.stuck(), 6);
        row(1, 10);
        plan("a0@0;b0@0;a0@5;b0@5", 4);
        due("stuck", x.stuck(), 3);
        row(2, 0);
        plan("a1@50;b1@50;c1@58", 3);
        due("stuck", x.stuck(), 8);
        row(2, 50);
        promise = 26;
        fresh(26, "p;p;e11@0-60+;e11@0-60*");
        plan("b0@3;a0@5;a1@58", 3);
        due("hands", x.hands(1, 2), -2);
        due("hands", x.hands(1, 3), 1);
        due("hands", x.hands(1, 5), 1);
        due("hands", x.hands(1, 6), 0);
        due("hands", x.hands(1, 8), -2);
        due("hands", x.hands(2, 3), -2);
        due("hands", x.hands(2, 59), 0);
        due("hands", x.hands(2, 60), -1);
        due("hands", x.hands(2, -1), -1);
        due("hands", x.hands(0, 3), -1);
        due("hands", x.hands(3, 3), -1);
    }

    private static void toBePutIn() {
        fresh(27, "p;p;p!;e11@5-30;e32@0-99;e03@0-99^");
        due("earliest", x.earliest(0, 0), 4);
        row(7);
        due("latest", x.latest(0, 0), 28);
        row(31);
        promise = 28;
        due("latest", x.latest(0, 1), 52);
        row(60);
        due("latest", x.latest(0, 2), 57);
        row(60);
        promise = 27;
        due("earliest", x.earliest(2, 0), -2);
        row(60);
        due("latest", x.latest(2, 0), -2);
        row(60);
        due("earliest", x.earliest(3, 0), -1);
        due("earliest", x.earliest(-1, 0), -1);
        due("earliest", x.earliest(0, 3), -1);
        due("earliest", x.earliest(0, -1), -1);
        due("latest", x.latest(3, 0), -1);
        due("latest", x.latest(0, 3), -1);
        due("go", x.go(0, 0, 4), 1);
        due("earliest", x.earliest(2, 0), 4);
        due("latest", x.latest(2, 0), 4);
        due("earliest", x.earliest(0, 0), 7);
        due("train", x.train(99), 60);
        due("earliest", x.earliest(0, 2), 0);
        promise = 29;
        due("best", x.best(0), 2);
        row(0, 1);
        wishes("199", 0, 3);
        due("best", x.best(0), 2);
        row(0, 9);
        wishes("192", 0, 3);
        due("best", x.best(0), 1);
        row(7, 9);
        rule("n*5-z", 0);
        due("best", x.best(1), 0);
        row(4, 5);
        due("best", x.best(0), 2);
        row(0, 0);
        due("best", x.best(3), -1);
        due("best", x.best(-1), -1);
        plan("", 0);
        due("best", x.best(2), -2);
        row(0, 0);
        fresh(29, "p;p;e11@0-60;e11@0-60");
        due("best of equal ones", x.best(1), 0);
        row(0, 1);
        due("trips", x.count(3), 0);
    }

    private static void mostOpenMend() {
        fresh(30, "p;p;e11@0-60;e22@0-4");
        wishes("12", 0, 2);
        wishes("31", 1, 2);
        due("most", x.most(0), 0);
        row();
        due("most", x.most(1), 3);
        row(1, 0, 0);
        due("most", x.most(2), 6);
        row(1, 0, 0, 1, 0, 3);
        due("most", x.most(3), -1);
        due("most", x.most(-1), -1);
        due("trips", x.count(3), 0);
        due("undo", x.count(5), 0);
        rule("0-w", 0);
        due("most", x.most(2), 0);
        row();
        rule("w*(1-z)", 0);
        due("most", x.most(2), 5);
        row(0, 1, 0, 1, 0, 6);
    }

    private static void partsAndTurns() {
        fresh(33, "");
        parts("30,30", 1);
        row(0);
        parts("30,31", 0);
        row(1);
        parts("0", 1);
        row(0);
        parts("5", 0);
        row(5);
        parts("60,0", 1);
        row(0);
        parts("70,0", 0);
        row(10);
        parts("70,99,5", 0);
        row(10 + 39 + 5);
        parts("60,60,60,60,60,0", 1);
        row(0);
        parts("", -1);
        parts("1,", -3);
        parts("x", -1);
        parts("123", -3);
        parts("1,,2", -3);
        parts("1;2", -2);
        parts("1,2,3,4,5,6,", -13);
        parts("1,2,3,4,5,6,7", -13);
        parts("1,2,3,4,5,6;", -12);
        row(0);
        promise = 34;
        turn("a", -100);
        turn("", -100);
        station("p;p;p", 3);
        turn("", -1);
        turn("abc", 0);
        row(1, 1);
        turn("abca", 1);
        row(1, 2);
        turn("cab", 2);
        row(1, 1);
        turn("bbbb", 0);
        row(0, 4);
        turn("abab", 2);
        row(0, 2);
        turn("abd", -3);
        turn("xbd", -1);
        turn("aaaaaaaaaabbbbbbbbbbccccccccccaaaaaaaaaa", 1);
        row(10, 20);
        turn("aaaaaaaaaabbbbbbbbbbccccccccccaaaaaaaaaab", -41);
        turn("aaaaaaaaaabbbbbbbbbbccccccccccaaaaaaaaaax", -41);
        turn("aaaaaaaaaabbbbbbbbbbccccccccccaaaaaaaaad", -40);
        row(10, 20);
    }

    private static void bags() {
        fresh(35, "");
        lockers("5", 5, 1);
        row(0);
        lockers("555", 10, 2);
        row(0, 0, 1);
        lockers("34343", 7, 3);
        row(0, 0, 1, 1, 2);
        lockers("46355", 10, 3);
        row(0, 0, 1, 1, 2);
        lockers("22266", 9, 3);
        row(0, 0, 0, 1, 2);
        lockers("32626", 10, 2);
        row(0, 1, 0, 1, 1);
        lockers("11111111", 1, 8);
        row(0, 1, 2, 3, 4, 5, 6, 7);
        lockers("99999999", 20, 4);
        row(0, 0, 1, 1, 2, 2, 3, 3);
        lockers("", 5, -1);
        lockers("0", 5, -1);
        lockers("1x", 5, -2);
        lockers("111111111", 5, -9);
        lockers("11111111x", 5, -9);
        lockers("", 0, -100);
        lockers("x", 21, -100);
        lockers("16", 5, -200);
        lockers("6x", 5, -2);
        row(0, 0, 1, 1, 2, 2, 3, 3);
        promise = 36;
        left("555", 1, 10, 5);
        row(3);
        left("555", 0, 10, 15);
        row(0);
        left("9", 1, 5, 9);
        row(0);
        left("23465", 1, 10, 10);
        row(12);
        left("1234", 2, 5, 0);
        row(15);
        left("11111111", 4, 1, 4);
        row(15);
        left("", 1, 1, -1);
        left("x", 5, 1, -100);
        left("x", -1, 1, -100);
        left("1", 1, 0, -100);
        left("1", 1, 21, -100);
        left("111111111", 1, 1, -9);
        row(15);
    }

    private static void late() {
        fresh(37, "p;p;e11@0-60;e22@0-60");
        plan("a0@0;a1@5;b0@57;a0@1;b0@0", 5);
        // the first and the fourth are not lawful
        due("slack", x.slack(0), -1);
        due("slack", x.slack(1), 49);
        due("slack", x.slack(2), 0);
        due("slack", x.slack(3), -1);
        due("slack", x.slack(4), 54);
        due("slack", x.slack(5), -1);
        due("slack", x.slack(-1), -1);
        plan("a0@0;a0@3;a0@58;b0@0", 4);
        due("slack, a trip that is not lawful comes next, too", x.slack(1), 52);
        due("slack then", x.slack(0), 0);
        due("slack", x.slack(2), -1);
        promise = 38;
        due("tight", x.tight(), 0);
        row(0, 3, 57);
        plan("a0@57;b0@57", 2);
        due("tight", x.tight(), 0);
        row(0, 0, 0);
        plan("a0@58", 1);
        due("tight", x.tight(), -2);
        row(0, 0, 0);
        plan("", 0);
        due("tight", x.tight(), -2);
        promise = 39;
        plan("a0@50;b0@52;a0@58", 3);
        // slack 5 for both: the first's next trip begins in 58, the second's train goes in 60
        due("slack", x.slack(0), 5);
        due("slack", x.slack(1), 5);
        due("chance", x.chance(5, 7), 0);
        row(1, 1);
        due("chance", x.chance(6, 7), 0);
        row(9, 100);
        due("chance", x.chance(6, 5), 0);
        row(1, 4);
        due("chance", x.chance(6, 6), 0);
        row(4, 25);
        due("chance", x.chance(6, 10), 0);
        row(0, 1);
        due("chance", x.chance(9, 0), 0);
        row(1, 1);
        due("chance", x.chance(0, 5), -1);
        due("chance", x.chance(10, 5), -1);
        due("chance", x.chance(1, -1), -1);
        due("chance", x.chance(1, 11), -1);
        fresh(39, "p;e01@0-99");
        plan("a0@0;a0@1;a0@2;a0@3;a0@4;a0@5;a0@6;a0@7;a0@8;a0@9;a0@10;a0@11", 12);
        due("chance", x.chance(1, 1), 0);
        row(31381059609L, 100000000000L);
    }

    private static void seen() {
        fresh(40, "p;p;e33@0-60;e12@0-60");
        due("seen", x.seen(0, 0, 5), 1);
        due("seen", x.seen(0, 0, 5), 2);
        due("seen", x.seen(2, 0, 5), -1);
        due("seen", x.seen(-1, 0, 5), -1);
        due("seen", x.seen(0, 2, 5), -1);
        due("seen", x.seen(0, -1, 5), -1);
        due("seen", x.seen(0, 0, 100), -1);
        due("seen", x.seen(0, 0, -1), -1);
        for (int k = 3; k <= 12; k++) {
            due("seen", x.seen(1, 1, 99), k);
        }
        due("seen", x.seen(0, 0, 5), -1);
        due("count(6)", x.count(6), 12);
        promise = 41;
        due("forget", x.forget(), 12);
        due("forget", x.forget(), 0);
        promise = 42;
        plan("a0@2;b1@10", 2);
        due("fits", x.fits(), 0);
        row(0);
        int[][] sightings = {{0, 0, 4}, {0, 0, 5}, {0, 0, 7}, {0, 0, 8}, {1, 0, 5}, {0, 1, 5}, {1, 1, 11}, {1, 1, 12}};
        for (int[] s : sightings) {
            x.seen(s[0], s[1], s[2]);
        }
        due("fits", x.fits(), 4);
        row(2 + 4 + 64 + 128);
        promise = 43;
        x.forget();
        due("since", x.since(0, 0), 52);
        row(0, 51);
        x.seen(0, 0, 10);
        due("since", x.since(0, 0), 3);
        row(5, 7);
        x.seen(0, 0, 11);
        due("since", x.since(0, 0), 2);
        row(6, 7);
        due("since", x.since(0, 1), 57 - 3 - 2);
        row(0, 56);
        x.seen(0, 1, 13);
        due("since: away when seen elsewhere", x.since(0, 0), 0);
        row(-1, -1);
        due("since of the other", x.since(1, 0), 52);
        due("since", x.since(2, 0), -1);
        due("since", x.since(-1, 0), -1);
        due("since", x.since(0, 2), -1);
        due("since", x.since(0, -1), -1);
        promise = 44;
        x.forget();
        due("stayed", x.stayed(0), 3);
        x.seen(0, 0, 10);
        x.seen(1, 1, 13);
        int[] who = {3, 2, 2, 2, 2, 2, 0, 0, 1, 3};
        for (int m = 6; m < 16; m++) {
            due("stayed(" + m + ")", x.stayed(m), who[m - 6]);
        }
        due("stayed", x.stayed(-1), -1);
        due("stayed", x.stayed(100), -1);
        due("stayed", x.stayed(99), 3);
    }

    /** MINUTES above 63, and TRIPS across it. */
    private static void lateMinutes() {
        fresh(21, "p;p;p;e45@0-99;e03@0-99^;e01@0-99+");
        due("train", x.train(99), 60);
        plan("a0@57;b0@60;c0@63;a1@90;b0@85;c0@84", 6);
        // a away 57..69, 90..92 (seeing); b away 60..72, 85..97; c away 63..75, 84..96
        due("alone", x.alone(), 7);
        row(63, 7, 63);
        promise = 22;
        int[] minutes = {56, 57, 62, 63, 64, 69, 70, 75, 76, 84, 85, 90, 92, 93, 97, 98};
        int[] there = {7, 6, 4, 0, 0, 0, 1, 3, 7, 3, 1, 0, 0, 1, 5, 7};
        for (int k = 0; k < minutes.length; k++) {
            due("bench(" + minutes[k] + ")", x.bench(minutes[k]), there[k]);
        }
        due("bench", x.bench(91), 0);
        row(1, 0);
        due("bench", x.bench(99), -1);
        promise = 14;
        due("may", x.may(0, 2, 69), 3);
        due("may", x.may(0, 2, 70), 6);
        due("may", x.may(0, 2, 72), 6);
        due("may", x.may(0, 2, 73), 0);
        due("may", x.may(0, 1, 70), 0);
        due("may", x.may(1, 2, 62), 3);
        due("may", x.may(2, 2, 62), 6);
        due("may", x.may(2, 2, 59), 0);
        due("may", x.may(2, 1, 60), 0);
        due("may", x.may(0, 2, 98), 0);
        promise = 27;
        due("earliest", x.earliest(0, 0), 0);
        due("latest", x.latest(2, 0), 47);
        due("latest", x.latest(0, 2), 98);
        due("latest", x.latest(2, 2), 98);
        promise = 32;
        due("mend", x.mend(), 1);
        row(0);
    }

    private static void journeys() {
        fresh(45, "p;p;e11@0-60;e22@0-60");
        plan("a0@56;b0@57;a1@58", 3);
        // slack 1... the first is back in 59, but its next trip begins in 58: not behind it; so till TRAIN
        due("lawful", x.trip(0, 5), 3);
        plan("a0@55;b0@57;a1@58", 3);
        int[] slack = {0, 0, -1};
        for (int i = 0; i < 3; i++) {
            due("slack", x.slack(i), slack[i]);
        }
        for (int seed : new int[] {0, 1, -7, Integer.MIN_VALUE, 123456789}) {
            for (int d = 1; d <= 9; d += 4) {
                int state = seed;
                int good = 0;
                int[] misses = new int[2];
                for (int k = 0; k < 50; k++) {
                    boolean fine = true;
                    for (int i = 0; i < 2; i++) {
                        state = state * 1103515245 + 12345;
                        long draw = (state & 0xFFFFFFFFL) / 65536 % d;
                        if (draw > slack[i]) {
                            misses[i]++;
                            fine = false;
                        }
                    }
                    good += fine ? 1 : 0;
                }
                due("journey", x.journey(seed, 50, d), good);
                int most = Math.max(misses[0], misses[1]);
                row(most == 0 ? -1 : misses[0] == most ? 0 : 1, most);
            }
        }
        due("journey", x.journey(1, 0, 1), -1);
        due("journey", x.journey(1, 51, 1), -1);
        due("journey", x.journey(1, 1, 0), -1);
        due("journey", x.journey(1, 1, 10), -1);
        plan("", 0);
        due("journey", x.journey(5, 7, 9), 7);
        row(-1, 0);
    }

    private static void kept() {
        fresh(46, "p;p;e11@0-60");
        due("keep", x.keep(-1), false);
        due("keep", x.keep(3), false);
        due("again", x.again(0), false);
        due("again", x.again(-1), false);
        due("again", x.again(3), false);
        plan("a0@1;b0@5", 2);
        due("keep", x.keep(0), true);
        plan("a0@2", 1);
        due("keep", x.keep(2), true);
        plan("", 0);
        promise = 47;
        due("again", x.again(0), true);
        due("trips", x.count(3), 2);
        trip(1, 2, 5);
        due("again", x.again(2), true);
        due("trips", x.count(3), 1);
        due("again", x.again(1), false);
        due("strike", x.strike(0), 0);
        due("again", x.again(2), true);
        station("", 0);
        due("again", x.again(2), true);
        station("e11@0-60", 1);
        due("again", x.again(2), false);
        due("keep", x.keep(1), true);
        due("again", x.again(1), true);
        station("p", 1);
        due("again", x.again(1), false);
        promise = 48;
        text("abc");
        x.seen(0, 0, 0);
        x.alone();
        int[] want = {3, 2, 60, 1, 0, 0, 1, 3, 3};
        for (int what = 0; what < want.length; what++) {
            due("count(" + what + ")", x.count(what), want[what]);
        }
        due("count(9)", x.count(9), -100);
        due("count(-1)", x.count(-1), -100);
        promise = 49;
        row(-1, 0, -1);
        due("refused calls leave it", x.bench(-1), -1);
        row(-1, 0, -1);
        due("calls that tell none leave it", x.stayed(1), 6);
        row(-1, 0, -1);
        noRow(Integer.MAX_VALUE);
        noRow(Integer.MIN_VALUE);
        openAndMend();
    }

    private static void openAndMend() {
        fresh(31, "p;p!;e11@0-60;e22@0-3;e99@0-60;e11@0-60");
        due("open", x.open(), 1 + 4 + 8);
        row(2);
        due("go", x.go(0, 0, 0), 1);
        due("open", x.open(), 4 + 8);
        row(2);
        due("train", x.train(5), 60);
        due("open", x.open(), 0);
        row(2 + 4 + 8);
        promise = 32;
        fresh(32, "p;p!;e11@0-60;e11@0-60");
        due("mend", x.mend(), 0);
        row();
        plan("a0@0;b0@0;a1@10", 3);
        due("mend", x.mend(), 1);
        row(1);
        plan("b0@0;b1@20;a0@10;b0@40", 4);
        due("mend", x.mend(), 3);
        row(0, 1, 3);
        plan("b0@0;b1@20;a0@10;b0@40;b0@30", 5);
        due("mend", x.mend(), -2);
        row(0, 1, 3);
        plan("a0@0;a0@1;a0@2", 3);
        due("mend", x.mend(), 2);
        row(0, 1);
        due("trips", x.count(3), 3);
        fresh(32, "");
        due("mend", x.mend(), -2);
    }
}
