import java.io.File;
import java.io.PrintWriter;
import java.io.StringWriter;
import java.util.ArrayList;
import java.util.HashSet;
import java.util.List;
import java.util.Map;
import java.util.Set;
import java.util.TreeMap;
import java.util.TreeSet;
import java.util.regex.Matcher;
import java.util.regex.Pattern;
import java.util.spi.ToolProvider;

/** What of LANGUAGE.md can be seen from the compiled classes: the library, what is made where, how deep calls go. */
public final class CodeTest {
    private static final String MAIN = "OneWithTheBags";
    private static final int MOST_DEEP = 8;
    private static final Set<String> LIBRARY = Set.of("java/lang/Integer.bitCount", "java/lang/Integer.numberOfTrailingZeros",
        "java/lang/Math.abs", "java/lang/Math.max", "java/lang/Math.min", "java/lang/Object.<init>", "java/lang/String.indexOf",
        "java/lang/System.arraycopy", "java/util/Arrays.fill", "java/util/NoSuchElementException.<init>");
    private static final Pattern METHOD = Pattern.compile("  (?:[\\w.$\\[\\]]+ )*([\\w.$]+)\\([^)]*\\)(?: throws [\\w.]+)?;");
    private static final Pattern CALLED = Pattern.compile(".*\\binvoke\\w+ .*// (?:Interface)?Method ([^:]+):.*");
    private static final Pattern MADE = Pattern.compile(".*: (?:new|newarray|anewarray|multianewarray) .*");
    private static final Map<String, Set<String>> CALLS = new TreeMap<>();
    private static int wrong = 0;

    public static void main(String[] args) {
        for (String name : classes()) {
            read(name, listing(name));
        }
        check("the classes were read", CALLS.size() > 100);
        for (String method : CALLS.keySet()) {
            List<String> way = deepest(method, new HashSet<>());
            check("calls go too deep: " + way, way.size() <= MOST_DEEP);
        }
        System.out.println(wrong == 0 ? "the code keeps to the rules" : wrong + " faults of the code");
        if (wrong != 0) {
            System.exit(1);
        }
    }

    private static void check(String what, boolean good) {
        if (!good) {
            wrong++;
            System.out.println(what);
        }
    }

    private static Set<String> classes() {
        Set<String> names = new TreeSet<>(List.of(MAIN));
        for (Class<?> c : OneWithTheBags.class.getDeclaredClasses()) {
            names.add(c.getName());
        }
        return names;
    }

    private static String[] listing(String name) {
        StringWriter out = new StringWriter();
        File place = new File(System.getProperty("java.class.path"), name + ".class");
        ToolProvider javap = ToolProvider.findFirst("javap").orElseThrow();
        check("javap of " + name, javap.run(new PrintWriter(out), new PrintWriter(System.out), "-p", "-c", place.getPath()) == 0);
        return out.toString().split("\r?\n");
    }

    private static void read(String name, String[] lines) {
        String method = null;
        for (String line : lines) {
            Matcher m = METHOD.matcher(line);
            if (m.matches()) {
                method = name + "." + (m.group(1).equals(name) ? "<init>" : m.group(1));
                CALLS.computeIfAbsent(method, k -> new TreeSet<>());
            } else if (method != null) {
                look(name, method, line);
            }
        }
    }

    private static void look(String name, String method, String line) {
        check(method + " catches something", !line.contains("Exception table:"));
        check(method + " has a lambda", !line.contains("invokedynamic"));
        boolean exception = line.contains("java/util/NoSuchElementException");
        check(method + " makes an object: " + line.trim(), !MADE.matcher(line).matches() || method.endsWith("<init>") || exception);
        Matcher m = CALLED.matcher(line);
        if (!m.matches()) {
            return;
        }
        String called = m.group(1).replace("\"", "");
        if (called.contains("/")) {
            check(method + " calls " + called, LIBRARY.contains(called));
        } else {
            CALLS.get(method).add(called.contains(".") ? called : name + "." + called);
        }
    }

    /** A call that is open already is a recursion, which has a bound of its own. */
    private static List<String> deepest(String method, Set<String> open) {
        List<String> longest = new ArrayList<>();
        open.add(method);
        for (String called : CALLS.getOrDefault(method, Set.of())) {
            if (!open.contains(called)) {
                List<String> way = deepest(called, open);
                longest = way.size() > longest.size() ? way : longest;
            }
        }
        open.remove(method);
        List<String> whole = new ArrayList<>(List.of(method));
        whole.addAll(longest);
        return whole;
    }
}
