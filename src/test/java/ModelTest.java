import java.math.BigInteger;
import java.util.ArrayList;
import java.util.Arrays;
import java.util.List;
import java.util.NoSuchElementException;
import java.util.Random;
import java.util.regex.Matcher;
import java.util.regex.Pattern;

/** Random runs of calls; each answer, and what can be asked of the state, against a slow and plain model. */
public final class ModelTest {
    private static final int RUNS = 1500;
    private static final int CALLS = 120;
    private static final String[] NAMES = {"sign", "end", "station", "wishes", "rule", "plan", "person", "errand", "trip",
        "wish", "train", "sheet", "may", "go", "pair", "strike", "shift", "afternoon", "undo", "alone", "bench", "worth",
        "stays", "stuck", "hands", "earliest", "latest", "best", "most", "open", "mend", "parts", "turn", "lockers", "left",
        "slack", "tight", "chance", "seen", "forget", "fits", "since", "stayed", "journey", "keep", "again"};
    private static int wrong = 0;

    public static void main(String[] args) {
        int runs = args.length > 0 ? Integer.parseInt(args[0]) : RUNS;
        long firstSeed = args.length > 1 ? Long.parseLong(args[1]) : 1;
        int[] good = new int[NAMES.length];
        for (long seed = firstSeed; seed < firstSeed + runs && wrong < 20; seed++) {
            run(new Random(seed), seed, good);
        }
        for (int k = 0; k < NAMES.length; k++) {
            if (good[k] < runs / 20) {
                wrong++;
                System.out.println(NAMES[k] + " was hardly tried: " + good[k]);
            }
        }
        System.out.println(wrong == 0 ? "the model agrees" : "the model does not agree");
        if (wrong != 0) {
            System.exit(1);
        }
    }

    private static void run(Random r, long seed, int[] good) {
        OneWithTheBags x = new OneWithTheBags();
        Model m = new Model();
        boolean late = seed % 3 == 1;
        Texts texts = new Texts(r, m, late);
        if (late) {
            m.train(99);
            x.train(99);
        }
        StringBuilder log = new StringBuilder();
        boolean wild = seed % 10 == 0;
        for (int k = 0; k < CALLS; k++) {
            int op = r.nextInt(NAMES.length);
            if (k == 0 && !wild) {
                op = 2;
            }
            boolean reads = op >= 2 && op <= 5 || op == 17 || op >= 31 && op <= 34;
            if (reads && (k == 0 || r.nextInt(20) > 0)) {
                putText(x, m, k == 0 ? texts.bigStation() : texts.forCall(NAMES[op]), log);
            }
            int[] a = arguments(r, m, NAMES[op], wild && r.nextInt(3) == 0, late);
            log.append(' ').append(NAMES[op]).append(Arrays.toString(a));
            Object want = answer(m, null, op, a);
            Object got = answer(null, x, op, a);
            log.append('=').append(want);
            if (want instanceof Integer && (Integer) want >= 0) {
                good[op]++;
            } else if (Boolean.TRUE.equals(want)) {
                good[op]++;
            }
            if (!want.equals(got) || !m.state().equals(stateOf(x))) {
                wrong++;
                System.out.println("seed " + seed + ": " + log + "\n  answered " + got + ", the model " + want
                    + "\n  state " + stateOf(x) + "\n  model " + m.state());
                return;
            }
        }
    }

    private static void putText(OneWithTheBags x, Model m, String t, StringBuilder log) {
        m.end(0);
        x.end(0);
        String padded = t + "???".substring(0, (4 - t.length() % 4) % 4);
        for (int k = 0; k < padded.length(); k += 4) {
            int v = padded.charAt(k) << 24 | padded.charAt(k + 1) << 16 | padded.charAt(k + 2) << 8 | padded.charAt(k + 3);
            m.sign(v);
            x.sign(v);
        }
        m.end(t.length());
        x.end(t.length());
        log.append(" '").append(t).append('\'');
    }

    private static String stateOf(OneWithTheBags x) {
        StringBuilder b = new StringBuilder();
        for (int k = 0; k < 9; k++) {
            b.append(x.count(k)).append(' ');
        }
        for (int k = 0; k < x.count(7); k++) {
            b.append(x.row(k)).append(',');
        }
        for (int i = 0; i < x.count(3); i++) {
            b.append(' ').append(x.trip(i, 0)).append('.').append(x.trip(i, 1)).append('@').append(x.trip(i, 2));
        }
        for (int e = 0; e < x.count(1); e++) {
            b.append(' ').append(x.errand(e, 1));
        }
        return b.toString();
    }

    private static int[] arguments(Random r, Model m, String name, boolean wild, boolean late) {
        int[] a = new int[4];
        for (int k = 0; k < 4; k++) {
            int[] odd = {Integer.MIN_VALUE, Integer.MAX_VALUE, -1, r.nextInt(), 100, 99, 0, 64, 63, 12, 13};
            a[k] = wild ? odd[r.nextInt(odd.length)] : near(r, m.people());
        }
        if (wild) {
            return a;
        }
        switch (name) {
            case "sign": case "journey":
                a[0] = r.nextInt();
                a[1] = near(r, 51);
                a[2] = near(r, 10);
                break;
            case "end": a[0] = near(r, m.text.length() + 1); break;
            case "person": a[1] = near(r, 6); break;
            case "errand": a[0] = near(r, m.errands.size()); a[1] = near(r, 7); break;
            case "trip": case "slack": case "strike": a[0] = near(r, m.trips.size()); a[1] = near(r, 6); break;
            case "wish": a[1] = near(r, m.errands.size()); a[2] = near(r, 10); break;
            case "train": a[0] = late && r.nextInt(4) > 0 ? 99 : r.nextInt(4) == 0 ? near(r, 101) : 40 + near(r, 60); break;
            case "sheet": a[0] = near(r, 4); a[1] = near(r, 9); a[2] = r.nextInt(3) == 0 ? r.nextInt() : near(r, 10);
                a[3] = r.nextInt(3) == 0 ? r.nextInt() : r.nextInt(5) - 2; break;
            case "may": case "go": case "seen": a[1] = near(r, m.errands.size()); a[2] = time(r, late); break;
            case "pair": a[2] = near(r, m.errands.size()); a[3] = time(r, late); break;
            case "shift": a[0] = near(r, m.trips.size()); a[1] = r.nextInt(6) == 0 ? r.nextInt(220) - 110 : r.nextInt(21) - 10; break;
            case "bench": case "stayed": a[0] = near(r, 101); break;
            case "hands": a[0] = 1 + near(r, 2); a[1] = near(r, m.train); break;
            case "earliest": case "latest": case "since": a[1] = near(r, m.errands.size()); break;
            case "most": a[0] = near(r, 3); break;
            case "lockers": a[0] = 4 + near(r, 18); break;
            case "left": a[0] = near(r, 5); a[1] = 1 + near(r, 20); break;
            case "chance": a[0] = near(r, 10); a[1] = near(r, 11); break;
            case "keep": case "again": a[0] = near(r, 3); break;
            default: break;
        }
        return a;
    }

    private static int near(Random r, int n) {
        return r.nextInt(15) == 0 ? r.nextInt(n + 3) - 1 : n > 0 ? r.nextInt(n) : 0;
    }

    private static int time(Random r, boolean late) {
        return r.nextInt(3) == 0 ? near(r, 100) : late ? 50 + r.nextInt(40) : r.nextInt(25);
    }

    private static Object answer(Model m, OneWithTheBags x, int op, int[] a) {
        try {
            return m != null ? ask(m, op, a) : ask(x, op, a);
        } catch (NoSuchElementException e) {
            return "NoSuchElementException";
        }
    }

    private static Object ask(OneWithTheBags x, int op, int[] a) {
        switch (NAMES[op]) {
            case "sign": return x.sign(a[0]);
            case "end": return x.end(a[0]);
            case "station": return x.station();
            case "wishes": return x.wishes(a[0]);
            case "rule": return x.rule();
            case "plan": return x.plan();
            case "person": return x.person(a[0], a[1]);
            case "errand": return x.errand(a[0], a[1]);
            case "trip": return x.trip(a[0], a[1]);
            case "wish": return x.wish(a[0], a[1], a[2]);
            case "train": return x.train(a[0]);
            case "sheet": return x.sheet(a[0], a[1], a[2], a[3]);
            case "may": return x.may(a[0], a[1], a[2]);
            case "go": return x.go(a[0], a[1], a[2]);
            case "pair": return x.pair(a[0], a[1], a[2], a[3]);
            case "strike": return x.strike(a[0]);
            case "shift": return x.shift(a[0], a[1]);
            case "afternoon": return x.afternoon();
            case "undo": return x.undo();
            case "alone": return x.alone();
            case "bench": return x.bench(a[0]);
            case "worth": return x.worth();
            case "stays": return x.stays();
            case "stuck": return x.stuck();
            case "hands": return x.hands(a[0], a[1]);
            case "earliest": return x.earliest(a[0], a[1]);
            case "latest": return x.latest(a[0], a[1]);
            case "best": return x.best(a[0]);
            case "most": return x.most(a[0]);
            case "open": return x.open();
            case "mend": return x.mend();
            case "parts": return x.parts();
            case "turn": return x.turn();
            case "lockers": return x.lockers(a[0]);
            case "left": return x.left(a[0], a[1]);
            case "slack": return x.slack(a[0]);
            case "tight": return x.tight();
            case "chance": return x.chance(a[0], a[1]);
            case "seen": return x.seen(a[0], a[1], a[2]);
            case "forget": return x.forget();
            case "fits": return x.fits();
            case "since": return x.since(a[0], a[1]);
            case "stayed": return x.stayed(a[0]);
            case "journey": return x.journey(a[0], a[1], a[2]);
            case "keep": return x.keep(a[0]);
            default: return x.again(a[0]);
        }
    }

    private static Object ask(Model x, int op, int[] a) {
        switch (NAMES[op]) {
            case "sign": return x.sign(a[0]);
            case "end": return x.end(a[0]);
            case "station": return x.station();
            case "wishes": return x.wishes(a[0]);
            case "rule": return x.rule();
            case "plan": return x.plan();
            case "person": return x.person(a[0], a[1]);
            case "errand": return x.errand(a[0], a[1]);
            case "trip": return x.trip(a[0], a[1]);
            case "wish": return x.wish(a[0], a[1], a[2]);
            case "train": return x.train(a[0]);
            case "sheet": return x.sheet(a[0], a[1], a[2], a[3]);
            case "may": return x.may(a[0], a[1], a[2]);
            case "go": return x.go(a[0], a[1], a[2]);
            case "pair": return x.pair(a[0], a[1], a[2], a[3]);
            case "strike": return x.strike(a[0]);
            case "shift": return x.shift(a[0], a[1]);
            case "afternoon": return x.afternoon();
            case "undo": return x.undo();
            case "alone": return x.alone();
            case "bench": return x.bench(a[0]);
            case "worth": return x.worth();
            case "stays": return x.stays();
            case "stuck": return x.stuck();
            case "hands": return x.hands(a[0], a[1]);
            case "earliest": return x.earliest(a[0], a[1]);
            case "latest": return x.latest(a[0], a[1]);
            case "best": return x.best(a[0]);
            case "most": return x.most(a[0]);
            case "open": return x.open();
            case "mend": return x.mend();
            case "parts": return x.parts();
            case "turn": return x.turn();
            case "lockers": return x.lockers(a[0]);
            case "left": return x.left(a[0], a[1]);
            case "slack": return x.slack(a[0]);
            case "tight": return x.tight();
            case "chance": return x.chance(a[0], a[1]);
            case "seen": return x.seen(a[0], a[1], a[2]);
            case "forget": return x.forget();
            case "fits": return x.fits();
            case "since": return x.since(a[0], a[1]);
            case "stayed": return x.stayed(a[0]);
            case "journey": return x.journey(a[0], a[1], a[2]);
            case "keep": return x.keep(a[0]);
            default: return x.again(a[0]);
        }
    }

    /** Texts that can be read, some with a sign changed. */
    private static final class Texts {
        private final Random r;
        private final Model m;
        private final boolean late;

        Texts(Random r, Model m, boolean late) {
            this.r = r;
            this.m = m;
            this.late = late;
        }

        private int upTo(int n) {
            return r.nextInt(n + 1);
        }

        private String one(String signs) {
            return "" + signs.charAt(r.nextInt(signs.length()));
        }

        private String errandLine() {
            int way = r.nextInt(3) > 0 ? upTo(3) : upTo(9);
            int from = r.nextInt(3) > 0 ? upTo(9) : upTo(60);
            int till = Math.min(99, from + upTo(60));
            if (r.nextInt(30) == 0) {
                till = upTo(99);
            } else if (late) {
                till = 99;
            }
            String thing = one("   +*").trim();
            return "e" + way + (1 + upTo(r.nextInt(3) > 0 ? 4 : 8)) + "@" + from + "-" + till + thing + one("  ^").trim();
        }

        private String personLine() {
            return r.nextInt(4) == 0 ? "p!" : "p";
        }

        String bigStation() {
            StringBuilder b = new StringBuilder(personLine());
            for (int k = r.nextInt(5); k > 0; k--) {
                b.append(';').append(personLine());
            }
            for (int k = 1 + r.nextInt(6); k > 0; k--) {
                String line = errandLine();
                if (b.length() + line.length() < 76) {
                    b.append(';').append(line);
                }
            }
            return b.toString();
        }

        private String join(int n, String with, String kind) {
            StringBuilder b = new StringBuilder();
            for (int k = 0; k < n; k++) {
                b.append(k > 0 ? with : "").append(part(kind));
            }
            return b.toString();
        }

        private String person() {
            return one("abcdef".substring(0, Math.max(1, m.people()))) ;
        }

        private String errand() {
            return one("01234567".substring(0, Math.max(1, m.errands.size())));
        }

        private String minute() {
            return "" + (r.nextInt(4) == 0 ? upTo(99) : late ? 45 + upTo(45) : upTo(30));
        }

        private String part(String kind) {
            switch (kind) {
                case "station": return r.nextInt(3) == 0 ? personLine() : errandLine();
                case "wishes": return one("0123456789");
                case "plan": return person() + errand() + "@" + minute();
                case "afternoon": {
                    int which = upTo(5);
                    if (which == 0) {
                        return "x" + upTo(3);
                    }
                    return which == 1 ? "s" + upTo(3) + one("+-") + upTo(5) : "g" + person() + errand() + "@" + minute();
                }
                case "parts": return "" + upTo(r.nextInt(3) == 0 ? 99 : 50);
                case "turn": return person();
                default: return one("123456789");
            }
        }

        private String expression(int depth) {
            String thing;
            int kind = upTo(9);
            if (kind < 2 && depth < 5) {
                thing = "(" + expression(depth + 1) + ")";
            } else {
                thing = kind < 7 ? one("wasnieyz") : "" + upTo(r.nextInt(3) == 0 ? 999 : 9);
            }
            if (upTo(8) == 0) {
                thing = one("-") + thing;
            }
            return upTo(9) < 5 && depth < 7 ? thing + one("+-*/<>=+-*/") + expression(depth + (upTo(2) == 0 ? 1 : 0)) : thing;
        }

        String forCall(String name) {
            String t;
            switch (name) {
                case "station": t = join(upTo(r.nextInt(5) == 0 ? 10 : 2), ";", name); break;
                case "wishes": t = join(m.errands.size(), "", name); break;
                case "rule": t = expression(0); break;
                case "plan": t = join(r.nextInt(6) == 0 ? upTo(14) : upTo(7), ";", name); break;
                case "afternoon": t = join(r.nextInt(6) == 0 ? upTo(14) : upTo(6), ";", name); break;
                case "parts": t = join(1 + upTo(6), ",", name); break;
                case "turn": t = join(r.nextInt(6) == 0 ? upTo(44) : upTo(8), "", name); break;
                default: t = join(1 + upTo(7), "", name); break;
            }
            if (r.nextInt(6) == 0) {
                t = spoil(t);
            }
            return t.length() > 80 ? t.substring(0, 80) : t;
        }

        private String spoil(String t) {
            String signs = "pe!@-+*^;,abcdefgxs0123456789wnizy()<>=/ ?";
            int at = upTo(t.length());
            int how = upTo(2);
            String tail = how > 0 && at < t.length() ? t.substring(at + 1) : t.substring(at);
            return t.substring(0, at) + (how < 2 ? one(signs) : "") + tail;
        }
    }

    /** The document, as plainly as can be. */
    private static final class Model {
        private String text = "";
        private final List<Boolean> shy = new ArrayList<>();
        private final List<int[]> errands = new ArrayList<>();
        private final int[][] wishes = new int[6][8];
        private int train = 60;
        private List<int[]> trips = new ArrayList<>();
        private String rule = "w";
        private final List<List<int[]>> past = new ArrayList<>();
        private final List<List<int[]>> kept = new ArrayList<>(Arrays.asList(null, null, null));
        private final List<int[]> sightings = new ArrayList<>();
        private long[] row = {};

        Model() {
            for (int[] w : wishes) {
                Arrays.fill(w, 1);
            }
        }

        int people() {
            return shy.size();
        }

        String state() {
            StringBuilder b = new StringBuilder();
            int bits = 0;
            for (int p = 0; p < people(); p++) {
                bits += shy.get(p) ? 1 << p : 0;
            }
            int[] counts = {people(), errands.size(), train, trips.size(), bits, past.size(), sightings.size(), row.length, text.length()};
            for (int c : counts) {
                b.append(c).append(' ');
            }
            for (long n : row) {
                b.append(n).append(',');
            }
            for (int[] t : trips) {
                b.append(' ').append(t[0]).append('.').append(t[1]).append('@').append(t[2]);
            }
            for (int[] e : errands) {
                b.append(' ').append(e[1]);
            }
            return b.toString();
        }

        // ---- texts

        int sign(int v) {
            if (text.length() > 76) {
                return -1;
            }
            for (int k = 3; k >= 0; k--) {
                text += (char) (v >> 8 * k & 255);
            }
            return text.length();
        }

        boolean end(int n) {
            if (n < 0 || n > text.length()) {
                return false;
            }
            text = text.substring(0, n);
            return true;
        }

        private String taken() {
            String t = text;
            text = "";
            return t;
        }

        /** The first place at which t leaves all texts of the form; its length, if it ends too early; -1: it is one. */
        private static int leaves(String form, String t) {
            Pattern p = Pattern.compile(form, Pattern.DOTALL);
            for (int k = 1; k <= t.length(); k++) {
                Matcher m = p.matcher(t.substring(0, k));
                if (!m.matches() && !m.hitEnd()) {
                    return k - 1;
                }
            }
            return p.matcher(t).matches() ? -1 : t.length();
        }

        /** As leaves(), of a text that may have so many signs. */
        private static int leaves(String form, String t, int most) {
            int place = leaves(form, t.length() > most ? t.substring(0, most) : t);
            return place < 0 && t.length() > most ? most : place;
        }

        int station() {
            String t = taken();
            if (t.isEmpty()) {
                return 0;
            }
            String line = "(?:p!?|e[0-9][1-9]@[0-9]{1,2}-[0-9]{1,2}[+*]?\\^?)";
            int place = leaves(line + "(?:;" + line + ")*", t, 76);
            String readable = t.substring(0, place < 0 ? t.length() : Math.min(place, t.length()));
            int p = people();
            int e = errands.size();
            for (int k = 0; k < readable.length(); k++) {
                boolean first = k == 0 || readable.charAt(k - 1) == ';';
                p += first && readable.charAt(k) == 'p' ? 1 : 0;
                e += first && readable.charAt(k) == 'e' ? 1 : 0;
                if (p > 6 || e > 8) {
                    return -1 - k;
                }
                String so = readable.substring(readable.lastIndexOf(';', k) + 1, k + 1);
                Matcher m = Pattern.compile("e..@([0-9]+)-([0-9]+)").matcher(so);
                boolean more = k + 1 < readable.length() && Character.isDigit(readable.charAt(k + 1));
                if (m.matches() && !more && Integer.parseInt(m.group(2)) < Integer.parseInt(m.group(1))) {
                    return -1 - k;
                }
            }
            if (place >= 0) {
                return -1 - place;
            }
            String[] lines = t.split(";");
            for (String l : lines) {
                if (l.charAt(0) == 'p') {
                    shy.add(l.length() > 1);
                } else {
                    String[] parts = l.replaceAll("[+*^]", "").split("[@-]");
                    int thing = l.contains("+") ? 1 : l.contains("*") ? 2 : 0;
                    errands.add(new int[] {l.charAt(1) - '0', l.charAt(2) - '0', Integer.parseInt(parts[1]),
                        Integer.parseInt(parts[2]), thing, l.contains("^") ? 1 : 0});
                }
            }
            past.clear();
            for (int k = 0; k < 3; k++) {
                kept.set(k, null);
            }
            return lines.length;
        }

        int wishes(int p) {
            String t = taken();
            if (p < 0 || p >= people()) {
                return -100;
            }
            int place = leaves("[0-9]{" + errands.size() + "}", t);
            if (place >= 0) {
                return -1 - place;
            }
            for (int e = 0; e < t.length(); e++) {
                wishes[p][e] = t.charAt(e) - '0';
            }
            return t.length();
        }

        int plan() {
            String t = taken();
            String one = "[" + "_abcdef".substring(0, people() + 1) + "][" + "_01234567".substring(0, errands.size() + 1) + "]@[0-9]{1,2}";
            int place = t.isEmpty() ? -1 : leaves(one.replace("_", "\\x{FFFF}") + "(?:;" + one.replace("_", "\\x{FFFF}") + ")*", t, 72);
            int found = 1;
            for (int k = 0; k < t.length() && (place < 0 || k < place); k++) {
                found += t.charAt(k) == ';' ? 1 : 0;
                if (found > 12 && t.charAt(k) == ';') {
                    return -1 - (k + 1);
                }
            }
            if (place >= 0) {
                return -1 - place;
            }
            remember();
            trips = new ArrayList<>();
            for (String s : t.isEmpty() ? new String[0] : t.split(";")) {
                trips.add(new int[] {s.charAt(0) - 'a', s.charAt(1) - '0', Integer.parseInt(s.substring(3))});
            }
            return trips.size();
        }

        // ---- the rule

        private static int ruleLeaves(String t) {
            List<Boolean> compared = new ArrayList<>();
            compared.add(false);
            boolean wantsThing = true;
            int digits = 0;
            for (int k = 0; k < t.length(); k++) {
                char c = t.charAt(k);
                int top = compared.size() - 1;
                if (wantsThing) {
                    digits = c >= '0' && c <= '9' ? 1 : 0;
                    if (c == '(' && top < 4) {
                        compared.add(false);
                    } else if ("wasnieyz".indexOf(c) >= 0 || digits == 1) {
                        wantsThing = false;
                    } else if (c != '-') {
                        return k;
                    }
                } else if (c >= '0' && c <= '9' && digits > 0 && digits < 3) {
                    digits++;
                } else if (c == ')' && top > 0) {
                    compared.remove(top);
                    digits = 0;
                } else if ("+-*/".indexOf(c) >= 0) {
                    wantsThing = true;
                } else if ("<>=".indexOf(c) >= 0 && !compared.get(top)) {
                    compared.set(top, true);
                    wantsThing = true;
                } else {
                    return k;
                }
            }
            return wantsThing || compared.size() > 1 ? t.length() : -1;
        }

        int rule() {
            String t = taken();
            if (t.isEmpty()) {
                rule = "w";
                return 0;
            }
            int place = ruleLeaves(t.length() > 40 ? t.substring(0, 40) : t);
            place = place < 0 && t.length() > 40 ? 40 : place;
            if (place >= 0) {
                return -1 - place;
            }
            rule = t;
            return 0;
        }

        /** The last of these operators that stands outside of ( ) and has a thing ahead of it. */
        private static int split(String t, String operators) {
            int depth = 0;
            for (int k = t.length() - 1; k > 0; k--) {
                depth += t.charAt(k) == ')' ? 1 : t.charAt(k) == '(' ? -1 : 0;
                boolean behindThing = "+-*/<>=(".indexOf(t.charAt(k - 1)) < 0;
                if (depth == 0 && behindThing && operators.indexOf(t.charAt(k)) >= 0) {
                    return k;
                }
            }
            return -1;
        }

        private int value(String t, List<int[]> plan, int i) {
            for (String operators : new String[] {"<>=", "+-", "*/"}) {
                int k = split(t, operators);
                if (k > 0) {
                    int a = value(t.substring(0, k), plan, i);
                    int b = value(t.substring(k + 1), plan, i);
                    switch (t.charAt(k)) {
                        case '<': return a < b ? 1 : 0;
                        case '>': return a > b ? 1 : 0;
                        case '=': return a == b ? 1 : 0;
                        case '+': return a + b;
                        case '-': return a - b;
                        case '*': return a * b;
                        default: return b == 0 ? 0 : a / b;
                    }
                }
            }
            char c = t.charAt(0);
            if (c == '-') {
                return -value(t.substring(1), plan, i);
            }
            if (c == '(') {
                return value(t.substring(1, t.length() - 1), plan, i);
            }
            return Character.isDigit(c) ? Integer.parseInt(t) : fact(c, plan, i);
        }

        private int fact(char c, List<int[]> plan, int i) {
            int[] t = plan.get(i);
            int n = 0;
            int z = 0;
            for (int j = 0; j < plan.size(); j++) {
                int[] o = plan.get(j);
                n += j != i && o[1] == t[1] && o[2] == t[2] ? 1 : 0;
                z = j < i && o[0] == t[0] && o[1] == t[1] ? 1 : z;
            }
            switch (c) {
                case 'w': return wishes[t[0]][t[1]];
                case 'a': return back(t) - t[2];
                case 's': return t[2];
                case 'n': return n;
                case 'i': return t[0];
                case 'e': return t[1];
                case 'y': return shy.get(t[0]) ? 1 : 0;
                default: return z;
            }
        }

        private int worthOf(List<int[]> plan, int i) {
            return Math.max(-999, Math.min(999, value(rule, plan, i)));
        }

        private int sum(List<int[]> plan) {
            int sum = 0;
            for (int i = 0; i < plan.size(); i++) {
                sum += worthOf(plan, i);
            }
            return sum;
        }

        // ---- who is where

        private int[] of(int[] trip) {
            return errands.get(trip[1]);
        }

        private int back(int[] t) {
            return t[2] + 2 * of(t)[0] + of(t)[1];
        }

        private boolean away(int[] t, int m) {
            return m >= t[2] && m < back(t);
        }

        private boolean there(int[] t, int m) {
            return m >= t[2] + of(t)[0] && m < t[2] + of(t)[0] + of(t)[1];
        }

        private boolean atBench(List<int[]> plan, int p, int m) {
            for (int[] t : plan) {
                if (t[0] == p && away(t, m)) {
                    return false;
                }
            }
            return true;
        }

        private boolean watched(List<int[]> plan, int m) {
            for (int p = 0; p < people(); p++) {
                if (atBench(plan, p, m)) {
                    return true;
                }
            }
            for (int[] t : plan) {
                if (of(t)[5] == 1 && there(t, m)) {
                    return true;
                }
            }
            return false;
        }

        private boolean stillWatched(List<int[]> plan) {
            for (int m = 0; m < train; m++) {
                if (watched(trips, m) && !watched(plan, m)) {
                    return false;
                }
            }
            return true;
        }

        private int broken(List<int[]> plan, int i) {
            int[] t = plan.get(i);
            int[] e = of(t);
            if (back(t) > train) {
                return 1;
            }
            if (t[2] + e[0] < e[2] || t[2] + e[0] + e[1] > e[3]) {
                return 2;
            }
            boolean third = true;
            boolean fourth = true;
            boolean fifth = !shy.get(t[0]);
            for (int j = 0; j < plan.size(); j++) {
                int[] o = plan.get(j);
                boolean together = o[1] == t[1] && o[2] == t[2];
                if (j == i) {
                    continue;
                }
                for (int m = 0; m < 130; m++) {
                    if (away(t, m) && away(o, m)) {
                        third &= o[0] != t[0];
                        fourth &= e[4] == 0 || of(o)[4] != e[4] || together;
                    }
                }
                fifth |= together && o[0] != t[0];
            }
            return !third ? 3 : !fourth ? 4 : !fifth ? 5 : 0;
        }

        private boolean known(int p, int e) {
            return p >= 0 && p < people() && e >= 0 && e < errands.size();
        }

        private static List<int[]> with(List<int[]> plan, int... trip) {
            List<int[]> more = new ArrayList<>(plan);
            for (int k = 0; k < trip.length; k += 3) {
                more.add(new int[] {trip[k], trip[k + 1], trip[k + 2]});
            }
            return more;
        }

        private int mayIn(int p, int e, int s) {
            List<int[]> plan = with(trips, p, e, s);
            int law = broken(plan, plan.size() - 1);
            return law != 0 ? law : !stillWatched(plan) ? 6 : trips.size() >= 12 ? 7 : 0;
        }

        // ---- calls

        int person(int p, int what) {
            if (!(p >= 0 && p < people() && what >= 0 && what < 6)) {
                throw new NoSuchElementException();
            }
            int n = 0;
            int there = 0;
            int run = 0;
            int longest = 0;
            int worth = 0;
            for (int i = 0; i < trips.size(); i++) {
                if (trips.get(i)[0] == p) {
                    n++;
                    worth += worthOf(trips, i);
                }
            }
            for (int m = 0; m < train; m++) {
                run = atBench(trips, p, m) ? run + 1 : 0;
                there += run > 0 ? 1 : 0;
                longest = Math.max(longest, run);
            }
            return new int[] {shy.get(p) ? 1 : 0, n, train - there, there, longest, worth}[what];
        }

        int errand(int e, int what) {
            if (!(e >= 0 && e < errands.size() && what >= 0 && what < 7)) {
                throw new NoSuchElementException();
            }
            int n = 0;
            for (int[] t : trips) {
                n += t[1] == e ? 1 : 0;
            }
            return what == 6 ? n : errands.get(e)[what];
        }

        int trip(int i, int what) {
            if (!(i >= 0 && i < trips.size() && what >= 0 && what < 6)) {
                throw new NoSuchElementException();
            }
            int[] t = trips.get(i);
            return new int[] {t[0], t[1], t[2], back(t), worthOf(trips, i), broken(trips, i)}[what];
        }

        int wish(int p, int e, int v) {
            if (!known(p, e) || v < 0 || v > 9) {
                return -1;
            }
            int was = wishes[p][e];
            wishes[p][e] = v;
            return was;
        }

        int train(int v) {
            if (v < 1 || v > 99) {
                return -1;
            }
            int was = train;
            train = v;
            return was;
        }

        int sheet(int kind, int n, int f, int step) {
            if (kind < 0 || kind > 3 || n > 8) {
                return -1;
            }
            if (n < 0 && kind < 3) {
                return -2;
            }
            int[] entries = new int[8];
            Arrays.fill(entries, 1);
            int entry = f;
            for (int k = 0; k < n && kind < 3; k++) {
                entries[k] = kind == 0 ? (byte) entry : kind == 1 ? (short) entry : entry;
                entry += step;
            }
            int sum = 0;
            for (int e = 0; e < errands.size(); e++) {
                errands.get(e)[1] = entries[e] < 1 ? 1 : entries[e] > 9 ? 9 : entries[e];
                sum += errands.get(e)[1];
            }
            return kind == 3 ? -3 : sum;
        }

        private void remember() {
            past.add(trips);
            if (past.size() > 15) {
                past.remove(0);
            }
        }

        private boolean change(List<int[]> plan) {
            trips = plan;
            return true;
        }

        int may(int p, int e, int s) {
            return known(p, e) && s >= 0 && s < 100 ? mayIn(p, e, s) : -1;
        }

        int go(int p, int e, int s) {
            int may = may(p, e, s);
            if (may != 0) {
                return may < 0 ? -1 : -2;
            }
            remember();
            change(with(trips, p, e, s));
            return trips.size();
        }

        int pair(int p, int q, int e, int s) {
            if (!known(p, e) || !known(q, e) || p == q || s < 0 || s > 99) {
                return -1;
            }
            List<int[]> plan = with(trips, p, e, s, q, e, s);
            int n = plan.size();
            if (n > 12 || broken(plan, n - 1) != 0 || broken(plan, n - 2) != 0 || !stillWatched(plan)) {
                return -2;
            }
            remember();
            change(plan);
            return n;
        }

        int strike(int i) {
            if (i < 0 || i >= trips.size()) {
                return -1;
            }
            remember();
            List<int[]> plan = new ArrayList<>(trips);
            plan.remove(i);
            change(plan);
            return plan.size();
        }

        int shift(int i, int n) {
            if (i < 0 || i >= trips.size() || n < -99 || n > 99) {
                return -1;
            }
            List<int[]> plan = new ArrayList<>(trips);
            int[] t = plan.get(i);
            plan.set(i, new int[] {t[0], t[1], t[2] + n});
            if (t[2] + n < 0 || t[2] + n > 99 || broken(plan, i) != 0) {
                return -2;
            }
            remember();
            change(plan);
            return t[2] + n;
        }

        int afternoon() {
            String t = taken();
            String one = "(?:g[a-f][0-9]@[0-9]{1,2}|x[0-9]{1,2}|s[0-9]{1,2}[+-][0-9]{1,2})";
            int place = t.isEmpty() ? -1 : leaves(one + "(?:;" + one + ")*", t, 60);
            if (place >= 0) {
                return -1 - place;
            }
            List<List<int[]>> pastBefore = new ArrayList<>(past);
            List<int[]> before = trips;
            int done = 0;
            boolean refused = false;
            for (String s : t.isEmpty() ? new String[0] : t.split(";")) {
                String rest = s.substring(1);
                int answer;
                if (s.charAt(0) == 'g') {
                    answer = go(rest.charAt(0) - 'a', rest.charAt(1) - '0', Integer.parseInt(rest.substring(3)));
                } else if (s.charAt(0) == 'x') {
                    answer = strike(Integer.parseInt(rest));
                } else {
                    String[] two = rest.split("[+-]");
                    answer = shift(Integer.parseInt(two[0]), Integer.parseInt(two[1]) * (rest.contains("-") ? -1 : 1));
                }
                if (answer < 0) {
                    refused = true;
                    break;
                }
                done++;
            }
            past.clear();
            past.addAll(pastBefore);
            if (done > 0) {
                List<int[]> now = trips;
                trips = before;
                remember();
                trips = now;
            }
            row = new long[] {refused ? 1 : 0, sum(trips)};
            return done;
        }

        int undo() {
            if (past.isEmpty()) {
                return -1;
            }
            trips = past.remove(past.size() - 1);
            return past.size();
        }

        int alone() {
            int n = 0;
            int first = -1;
            int best = 0;
            int from = -1;
            for (int a = 0; a < train; a++) {
                if (!watched(trips, a)) {
                    n++;
                    first = first < 0 ? a : first;
                }
                int b = a;
                while (b < train && !watched(trips, b)) {
                    b++;
                }
                if (b - a > best) {
                    best = b - a;
                    from = a;
                }
            }
            row = new long[] {first, best, from};
            return n;
        }

        int bench(int m) {
            if (m < 0 || m >= train) {
                return -1;
            }
            int there = 0;
            int seeing = 0;
            int way = 0;
            for (int p = 0; p < people(); p++) {
                boolean sees = false;
                boolean at = false;
                for (int[] t : trips) {
                    at |= t[0] == p && there(t, m);
                    sees |= t[0] == p && there(t, m) && of(t)[5] == 1;
                }
                there |= atBench(trips, p, m) ? 1 << p : 0;
                seeing |= sees ? 1 << p : 0;
                way |= !atBench(trips, p, m) && !at ? 1 << p : 0;
            }
            row = new long[] {seeing, way};
            return there;
        }

        int worth() {
            int n = 0;
            int first = -1;
            for (int i = trips.size() - 1; i >= 0; i--) {
                if (broken(trips, i) != 0) {
                    n++;
                    first = i;
                }
            }
            row = new long[] {n, first};
            return sum(trips);
        }

        int stays() {
            if (people() == 0) {
                return -2;
            }
            int best = -1;
            int least = 1000;
            int who = 0;
            int whoLeast = 0;
            for (int p = 0; p < people(); p++) {
                int n = person(p, 3);
                if (n > best) {
                    best = n;
                    who = p;
                }
                if (n < least) {
                    least = n;
                    whoLeast = p;
                }
            }
            row = new long[] {best, whoLeast, least};
            return who;
        }

        int stuck() {
            int best = 0;
            int who = -1;
            int from = -1;
            for (int a = 0; a < train; a++) {
                for (int p = 0; p < people(); p++) {
                    int b = a;
                    while (b < train && onlyOne(p, b)) {
                        b++;
                    }
                    if (b - a > best) {
                        best = b - a;
                        who = p;
                        from = a;
                    }
                }
            }
            row = new long[] {who, from};
            return best;
        }

        private boolean onlyOne(int p, int m) {
            for (int q = 0; q < people(); q++) {
                if (atBench(trips, q, m) != (q == p)) {
                    return false;
                }
            }
            return true;
        }

        int hands(int thing, int m) {
            if (thing != 1 && thing != 2 || m < 0 || m >= train) {
                return -1;
            }
            for (int[] t : trips) {
                if (of(t)[4] == thing && away(t, m)) {
                    return t[0];
                }
            }
            return -2;
        }

        private int soonest(int p, int e) {
            for (int s = 0; s < 100; s++) {
                if (mayIn(p, e, s) == 0) {
                    return s;
                }
            }
            return -2;
        }

        int earliest(int p, int e) {
            if (!known(p, e)) {
                return -1;
            }
            int s = soonest(p, e);
            row = s < 0 ? row : new long[] {back(new int[] {p, e, s})};
            return s;
        }

        int latest(int p, int e) {
            if (!known(p, e)) {
                return -1;
            }
            for (int s = 99; s >= 0; s--) {
                if (mayIn(p, e, s) == 0) {
                    row = new long[] {back(new int[] {p, e, s})};
                    return s;
                }
            }
            return -2;
        }

        int best(int p) {
            if (p < 0 || p >= people()) {
                return -1;
            }
            int[] best = null;
            for (int e = 0; e < errands.size(); e++) {
                int s = soonest(p, e);
                if (s >= 0) {
                    int[] now = {-worthOf(with(trips, p, e, s), trips.size()), back(new int[] {p, e, s}), e, s};
                    best = best == null || Arrays.compare(now, best) < 0 ? now : best;
                }
            }
            if (best == null) {
                return -2;
            }
            row = new long[] {best[3], -best[0]};
            return best[2];
        }

        int most(int n) {
            if (n < 0 || n > 2) {
                return -1;
            }
            List<long[]> all = new ArrayList<>();
            all.add(new long[] {0, 0});
            grow(n, sum(trips), new long[0], all);
            long[] best = all.get(0);
            for (long[] a : all) {
                best = Arrays.compare(a, best) < 0 ? a : best;
            }
            row = Arrays.copyOfRange(best, 2, best.length);
            return (int) -best[0];
        }

        private void grow(int n, int before, long[] so, List<long[]> all) {
            if (n == 0) {
                return;
            }
            List<int[]> was = trips;
            for (int p = 0; p < people(); p++) {
                for (int e = 0; e < errands.size(); e++) {
                    int s = soonest(p, e);
                    if (s < 0) {
                        continue;
                    }
                    long[] more = Arrays.copyOf(so, so.length + 3);
                    more[so.length] = p;
                    more[so.length + 1] = e;
                    more[so.length + 2] = s;
                    trips = with(was, p, e, s);
                    long[] entry = new long[2 + more.length];
                    entry[0] = before - sum(trips);
                    entry[1] = more.length;
                    System.arraycopy(more, 0, entry, 2, more.length);
                    all.add(entry);
                    grow(n - 1, before, more, all);
                    trips = was;
                }
            }
        }

        int open() {
            int can = 0;
            int not = 0;
            for (int e = 0; e < errands.size(); e++) {
                boolean may = false;
                for (int p = 0; p < people(); p++) {
                    may |= soonest(p, e) >= 0;
                }
                if (errand(e, 6) == 0) {
                    can |= may ? 1 << e : 0;
                    not |= may ? 0 : 1 << e;
                }
            }
            row = new long[] {not};
            return can;
        }

        int mend() {
            long[] best = null;
            for (int set = 0; set < 1 << trips.size(); set++) {
                if (Integer.bitCount(set) > 3) {
                    continue;
                }
                List<int[]> plan = new ArrayList<>();
                long[] struck = new long[1 + Integer.bitCount(set)];
                struck[0] = Integer.bitCount(set);
                int k = 1;
                for (int i = 0; i < trips.size(); i++) {
                    if ((set >> i & 1) == 0) {
                        plan.add(trips.get(i));
                    } else {
                        struck[k++] = i;
                    }
                }
                if ((best == null || Arrays.compare(struck, best) < 0) && sound(plan)) {
                    best = struck;
                }
            }
            if (best == null) {
                return -2;
            }
            row = Arrays.copyOfRange(best, 1, best.length);
            return row.length;
        }

        private boolean sound(List<int[]> plan) {
            for (int i = 0; i < plan.size(); i++) {
                if (broken(plan, i) != 0) {
                    return false;
                }
            }
            for (int m = 0; m < train; m++) {
                if (!watched(plan, m)) {
                    return false;
                }
            }
            return true;
        }

        int parts() {
            String t = taken();
            int place = leaves("[0-9]{1,2}(?:,[0-9]{1,2})*", t);
            int commas = 0;
            for (int k = 0; k < t.length() && (place < 0 || k < place); k++) {
                commas += t.charAt(k) == ',' ? 1 : 0;
                if (commas == 6) {
                    return -1 - (k + 1);
                }
            }
            if (place >= 0) {
                return -1 - place;
            }
            String[] numbers = t.split(",");
            int wanting = 0;
            int all = 0;
            for (String n : numbers) {
                int v = Integer.parseInt(n);
                wanting += v > train ? v - train : 0;
                all += v > train ? train : v;
            }
            int room = train * (numbers.length - 1);
            wanting += all > room ? all - room : 0;
            row = new long[] {wanting};
            return wanting > 0 ? 0 : 1;
        }

        int turn() {
            String t = taken();
            if (people() == 0) {
                return -100;
            }
            int place = leaves("[" + "abcdef".substring(0, people()) + "]+", t, 40);
            if (place >= 0) {
                return -1 - place;
            }
            int[] best = null;
            int most = 0;
            for (int p = 0; p < people(); p++) {
                char c = (char) ('a' + p);
                int n = (int) t.chars().filter(s -> s == c).count();
                int[] now = {n, t.lastIndexOf(c), p};
                best = best == null || Arrays.compare(now, best) < 0 ? now : best;
                most = Math.max(most, n);
            }
            row = new long[] {best[0], most};
            return best[2];
        }

        int lockers(int v) {
            String t = taken();
            if (v < 1 || v > 20) {
                return -100;
            }
            int place = leaves("[1-9]{1,8}", t);
            if (place >= 0) {
                return -1 - place;
            }
            int[] sizes = t.chars().map(c -> c - '0').toArray();
            for (int s : sizes) {
                if (s > v) {
                    return -200;
                }
            }
            for (int n = 1; ; n++) {
                long[] where = new long[sizes.length];
                int[] rooms = new int[n];
                Arrays.fill(rooms, v);
                if (pack(sizes, 0, rooms, where)) {
                    row = where;
                    return n;
                }
            }
        }

        private static boolean pack(int[] sizes, int k, int[] rooms, long[] where) {
            if (k == sizes.length) {
                return true;
            }
            for (int l = 0; l < rooms.length; l++) {
                where[k] = l;
                rooms[l] -= sizes[k];
                if (rooms[l] >= 0 && pack(sizes, k + 1, rooms, where)) {
                    return true;
                }
                rooms[l] += sizes[k];
            }
            return false;
        }

        int left(int n, int v) {
            String t = taken();
            if (n < 0 || n > 4 || v < 1 || v > 20) {
                return -100;
            }
            int place = leaves("[1-9]{1,8}", t);
            if (place >= 0) {
                return -1 - place;
            }
            int[] best = null;
            for (int set = 0; set < 1 << t.length(); set++) {
                int over = 0;
                int[] sizes = new int[Integer.bitCount(set)];
                int k = 0;
                for (int b = 0; b < t.length(); b++) {
                    if ((set >> b & 1) == 0) {
                        over += t.charAt(b) - '0';
                    } else {
                        sizes[k++] = t.charAt(b) - '0';
                    }
                }
                int[] rooms = new int[n];
                Arrays.fill(rooms, v);
                int[] now = {over, k, set};
                if ((best == null || Arrays.compare(now, best) < 0) && pack(sizes, 0, rooms, new long[k])) {
                    best = now;
                }
            }
            row = new long[] {best[2]};
            return best[0];
        }

        int slack(int i) {
            if (i < 0 || i >= trips.size() || broken(trips, i) != 0) {
                return -1;
            }
            int late = 0;
            int back = back(trips.get(i));
            while (true) {
                int arrives = back + late + 1;
                boolean misses = arrives > train;
                for (int[] t : trips) {
                    misses |= t[0] == trips.get(i)[0] && t[2] >= back && t[2] < arrives;
                }
                if (misses) {
                    return late;
                }
                late++;
            }
        }

        int tight() {
            int least = -2;
            int most = -2;
            for (int i = 0; i < trips.size(); i++) {
                int s = slack(i);
                if (s >= 0) {
                    least = least < 0 || s < slack(least) ? i : least;
                    most = most < 0 || s > slack(most) ? i : most;
                }
            }
            row = least < 0 ? row : new long[] {slack(least), most, slack(most)};
            return least;
        }

        int chance(int d, int p) {
            if (d < 1 || d > 9 || p < 0 || p > 10) {
                return -1;
            }
            BigInteger upper = BigInteger.ONE;
            BigInteger lower = BigInteger.ONE;
            for (int i = 0; i < trips.size(); i++) {
                int s = slack(i);
                if (s >= 0 && d > s) {
                    upper = upper.multiply(BigInteger.valueOf(10 - p));
                    lower = lower.multiply(BigInteger.TEN);
                }
            }
            BigInteger g = upper.gcd(lower);
            row = new long[] {upper.divide(g).longValueExact(), lower.divide(g).longValueExact()};
            return 0;
        }

        int seen(int p, int e, int m) {
            if (!known(p, e) || m < 0 || m > 99 || sightings.size() == 12) {
                return -1;
            }
            sightings.add(new int[] {p, e, m});
            return sightings.size();
        }

        int forget() {
            int n = sightings.size();
            sightings.clear();
            return n;
        }

        int fits() {
            int bits = 0;
            for (int k = 0; k < sightings.size(); k++) {
                int[] s = sightings.get(k);
                for (int[] t : trips) {
                    bits |= t[0] == s[0] && t[1] == s[1] && there(t, s[2]) ? 1 << k : 0;
                }
            }
            row = new long[] {bits};
            return Integer.bitCount(bits);
        }

        int since(int p, int e) {
            if (!known(p, e)) {
                return -1;
            }
            List<Integer> all = new ArrayList<>();
            for (int s = 0; s < 100; s++) {
                int[] t = {p, e, s};
                int law = broken(List.of(t), 0);
                boolean can = law != 1 && law != 2;
                for (int[] o : sightings) {
                    if (o[0] == p) {
                        can &= o[1] == e ? there(t, o[2]) : !away(t, o[2]);
                    }
                }
                if (can) {
                    all.add(s);
                }
            }
            row = all.isEmpty() ? new long[] {-1, -1} : new long[] {all.get(0), all.get(all.size() - 1)};
            return all.size();
        }

        int stayed(int m) {
            if (m < 0 || m > 99) {
                return -1;
            }
            int bits = (1 << people()) - 1;
            for (int[] s : sightings) {
                if (Math.max(s[2], m) - Math.min(s[2], m) <= errands.get(s[1])[0]) {
                    bits &= ~(1 << s[0]);
                }
            }
            return bits;
        }

        int journey(int seed, int n, int d) {
            if (n < 1 || n > 50 || d < 1 || d > 9) {
                return -1;
            }
            long r = seed;
            int good = 0;
            int[] misses = new int[trips.size()];
            for (int k = 0; k < n; k++) {
                boolean fine = true;
                for (int i = 0; i < trips.size(); i++) {
                    if (slack(i) < 0) {
                        continue;
                    }
                    r = r * 1103515245L + 12345 & 0xFFFFFFFFL;
                    if (r / 65536 % d > slack(i)) {
                        misses[i]++;
                        fine = false;
                    }
                }
                good += fine ? 1 : 0;
            }
            int worst = -1;
            for (int i = 0; i < misses.length; i++) {
                worst = misses[i] > (worst < 0 ? 0 : misses[worst]) ? i : worst;
            }
            row = new long[] {worst, worst < 0 ? 0 : misses[worst]};
            return good;
        }

        boolean keep(int i) {
            if (i < 0 || i > 2) {
                return false;
            }
            kept.set(i, trips);
            return true;
        }

        boolean again(int i) {
            if (i < 0 || i > 2 || kept.get(i) == null) {
                return false;
            }
            trips = kept.get(i);
            past.clear();
            return true;
        }
    }
}
