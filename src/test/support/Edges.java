import java.lang.reflect.InvocationTargetException;
import java.lang.reflect.Method;
import java.util.ArrayList;
import java.util.HashMap;
import java.util.List;
import java.util.Map;
import java.util.NoSuchElementException;

/**
 * What the edge tests share. A row of a test is a call with what is due:
 *
 * <pre>
 * bench 0 = 3 | 0 2      answers 3, and the ROW is 0, 2 then ("|" alone: it has no numbers)
 * person 9 0 = !         throws NoSuchElementException
 * keep 3 = false         a boolean
 * station 'p;p' = 2      the text is put in ahead of the call; it must be empty behind it
 * station = 0            the call reads what is there
 * </pre>
 *
 * An argument is an int, also in hexadecimal, or MIN or MAX. Each test has an object of its own, which is used for no
 * more than the 512 calls that the document allows.
 */
abstract class Edges {
    private static final int MOST_CALLS = 512;
    private static final String READERS = " station wishes rule plan afternoon parts turn lockers left ";
    private static final Map<String, Method> CALLS = new HashMap<>();
    private static OneWithTheBags object;
    private static int calls;
    private static String title;
    private static int tests;
    private static int wrong;

    static {
        for (Method m : OneWithTheBags.class.getDeclaredMethods()) {
            CALLS.put(m.getName(), m);
        }
    }

    /** One sentence of the document, by promise (0: the Terms), with the calls that would tell if it were broken. */
    protected static void edge(int promise, String sentence, String... rows) {
        begin(promise, sentence);
        for (String row : rows) {
            ask(row);
        }
    }

    /**
     * A call that is refused changes nothing: whatever can be asked of an object behind it is as of one that was not
     * asked. Of a call that reads it, THE TEXT alone is another one.
     */
    protected static void unchanged(int promise, String sentence, String[] setting, String row) {
        compare(promise, sentence, setting, row, true);
    }

    /** A call that only asks: the ROW alone is another one behind it, and THE TEXT, if the call reads it. */
    protected static void onlyAsks(int promise, String sentence, String[] setting, String row) {
        compare(promise, sentence, setting, row, false);
    }

    private static void compare(int promise, String sentence, String[] setting, String row, boolean withRow) {
        begin(promise, sentence);
        run(setting);
        String alike = everything(!reads(row), withRow);
        begin(promise, sentence);
        tests--;
        run(setting);
        ask(row);
        String behind = everything(!reads(row), withRow);
        if (!alike.equals(behind)) {
            fault(row + " changed something:\n    " + alike + "\n    " + behind);
        }
    }

    protected static void finish() {
        System.out.println(wrong == 0 ? tests + " edges hold" : wrong + " answers are not as due");
        if (wrong != 0) {
            System.exit(1);
        }
    }

    protected static String times(int n, String part, String between) {
        StringBuilder b = new StringBuilder();
        for (int k = 0; k < n; k++) {
            b.append(k == 0 ? "" : between).append(part);
        }
        return b.toString();
    }

    /** A text that a test needs to be just so long. */
    protected static String signs(int n, String text) {
        if (text.length() != n) {
            fault("the test's own text has " + text.length() + " signs, not " + n + ": " + text);
        }
        return text;
    }

    private static void begin(int promise, String sentence) {
        title = (promise == 0 ? "Terms" : "promise " + promise) + ", '" + sentence + "'";
        object = new OneWithTheBags();
        calls = 0;
        tests++;
    }

    private static void run(String[] rows) {
        for (String row : rows) {
            ask(row);
        }
    }

    private static void fault(String what) {
        wrong++;
        System.out.println(title + ": " + what);
    }

    private static boolean reads(String row) {
        return READERS.contains(" " + row.split(" ")[0] + " ");
    }

    private static void ask(String row) {
        int is = row.lastIndexOf(" = ");
        String call = row.substring(0, is);
        String[] due = row.substring(is + 3).split(" ?\\| ?", 2);
        int quote = call.indexOf('\'');
        if (quote >= 0) {
            int last = call.lastIndexOf('\'');
            put(call.substring(quote + 1, last));
            call = call.substring(0, quote).trim() + call.substring(last + 1);
        }
        String got = answer(call);
        if (!got.equals(due[0])) {
            fault(row + " answered " + got);
        }
        if (reads(row) && !answer("count 8").equals("0")) {
            fault(row + " did not empty the text");
        }
        if (due.length > 1) {
            compareRow(row, due[1].trim());
        }
    }

    private static void compareRow(String row, String due) {
        StringBuilder got = new StringBuilder();
        int n = Integer.parseInt(answer("count 7"));
        for (int i = 0; i < n; i++) {
            got.append(i == 0 ? "" : " ").append(answer("row " + i));
        }
        if (!got.toString().equals(due)) {
            fault(row + " told the row " + got);
        }
        if (!answer("row " + n).equals("!") || !answer("row -1").equals("!")) {
            fault(row + " told a row without an end");
        }
    }

    private static void put(String text) {
        answer("end 0");
        for (int k = 0; k < text.length(); k += 4) {
            int v = 0;
            for (int i = k; i < k + 4; i++) {
                v = v << 8 | (i < text.length() ? text.charAt(i) : '?');
            }
            answer("sign " + v);
        }
        if (!answer("end " + text.length()).equals("true")) {
            fault("the text can't be put in: " + text);
        }
    }

    private static String answer(String call) {
        String[] words = call.trim().split(" +");
        Object[] arguments = new Object[words.length - 1];
        for (int k = 1; k < words.length; k++) {
            arguments[k - 1] = number(words[k]);
        }
        calls++;
        if (calls > MOST_CALLS) {
            fault("the object was used for more than " + MOST_CALLS + " calls");
        }
        try {
            return String.valueOf(CALLS.get(words[0]).invoke(object, arguments));
        } catch (InvocationTargetException e) {
            boolean none = e.getCause().getClass() == NoSuchElementException.class;
            return none ? "!" : e.getCause().toString();
        } catch (ReflectiveOperationException e) {
            throw new IllegalStateException(call, e);
        }
    }

    private static int number(String word) {
        switch (word) {
            case "MIN":
                return Integer.MIN_VALUE;
            case "MAX":
                return Integer.MAX_VALUE;
            default:
                return (int) (long) Long.decode(word);
        }
    }

    /** All that can be asked of the object; the asking itself uses it up. */
    private static String everything(boolean withText, boolean withRow) {
        List<String> all = new ArrayList<>();
        for (int what = 0; what < 9; what++) {
            if ((what != 7 || withRow) && (what != 8 || withText)) {
                note(all, "count " + what);
            }
        }
        int people = Integer.parseInt(answer("count 0"));
        int errands = Integer.parseInt(answer("count 1"));
        for (int i = 0; withRow && !answer("row " + i).equals("!"); i++) {
            note(all, "row " + i);
        }
        for (int e = 0; e < errands; e++) {
            for (int what = 0; what < 6; what++) {
                note(all, "errand " + e + " " + what);
            }
        }
        noteTrips(all);
        noteSightings(all, people, errands);
        for (int k = 0; k < 20 && !answer("count 5").equals("0"); k++) {
            note(all, "undo");
            noteTrips(all);
        }
        for (int i = 0; i < 3; i++) {
            note(all, "again " + i);
            noteTrips(all);
        }
        for (int p = 0; p < people; p++) {
            for (int e = 0; e < errands; e++) {
                note(all, "wish " + p + " " + e + " 0");
            }
        }
        if (withText) {
            // as a station it tells, by where it can't stand, how its signs begin
            note(all, "station");
        }
        return all.toString();
    }

    private static void noteTrips(List<String> all) {
        int trips = Integer.parseInt(answer("count 3"));
        for (int i = 0; i < trips; i++) {
            StringBuilder b = new StringBuilder();
            for (int what : new int[] {0, 1, 2, 4}) {
                b.append(answer("trip " + i + " " + what)).append(' ');
            }
            all.add(b.toString());
        }
    }

    private static void noteSightings(List<String> all, int people, int errands) {
        for (int p = 0; p < people; p++) {
            for (int e = 0; e < errands; e++) {
                note(all, "since " + p + " " + e);
                all.add(answer("row 0"));
                all.add(answer("row 1"));
            }
        }
    }

    private static void note(List<String> all, String call) {
        all.add(call + "=" + answer(call));
    }
}
