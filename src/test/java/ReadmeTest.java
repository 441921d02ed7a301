import java.io.File;
import java.lang.reflect.Method;
import java.net.URL;
import java.net.URLClassLoader;
import java.nio.file.Files;
import java.nio.file.Path;
import java.util.ArrayList;
import java.util.Comparator;
import java.util.List;
import java.util.regex.Matcher;
import java.util.regex.Pattern;
import java.util.stream.Stream;
import javax.tools.ToolProvider;

/** The example of README.md, compiled and run: each answer is the one that is written behind the call. */
public final class ReadmeTest {
    private static final Pattern CALL = Pattern.compile("(x\\.\\w+\\([^)]*\\));\\s*// (-?\\d+|true|false|\\w+Exception)\\b.*");
    private static int calls = 0;
    private static int wrong = 0;

    /** The example that is made of README.md calls this. */
    public static void due(String call, String want, Object got) {
        calls++;
        if (!want.equals(String.valueOf(got))) {
            wrong++;
            System.out.println("README.md: " + call + " answers " + got + ", not " + want);
        }
    }

    public static void main(String[] args) throws Exception {
        List<List<String>> blocks = blocks(Files.readAllLines(Path.of("README.md")));
        if (blocks.size() != 2) {
            throw new IllegalStateException("README.md has a helper and an example in Java, not " + blocks.size());
        }
        Path place = Files.createTempDirectory("readme");
        try {
            run(place, source(blocks.get(0), blocks.get(1)));
        } finally {
            remove(place);
        }
        if (calls == 0) {
            wrong++;
            System.out.println("README.md: no call was found");
        }
        System.out.println(wrong == 0 ? calls + " answers of README.md hold" : wrong + " answers of README.md do not hold");
        if (wrong != 0) {
            System.exit(1);
        }
    }

    private static List<List<String>> blocks(List<String> lines) {
        List<List<String>> blocks = new ArrayList<>();
        boolean inside = false;
        for (String line : lines) {
            if (line.startsWith("```")) {
                inside = !inside;
                if (inside) {
                    blocks.add(new ArrayList<>());
                }
            } else if (inside) {
                blocks.get(blocks.size() - 1).add(line);
            }
        }
        return blocks;
    }

    private static String source(List<String> helper, List<String> example) {
        StringBuilder b = new StringBuilder("public final class ReadmeExample {\n");
        b.append(String.join("\n", helper)).append("\npublic static void run() {\n");
        for (String line : example) {
            Matcher m = CALL.matcher(line);
            if (m.matches()) {
                append(b, m.group(1), m.group(2));
            } else if (line.startsWith("x.")) {
                wrong++;
                System.out.println("README.md: no answer is told behind " + line);
            } else {
                b.append(line).append('\n');
            }
        }
        return b.append("}\n}\n").toString();
    }

    private static void append(StringBuilder b, String call, String want) {
        b.append("{ Object got; try { got = ").append(call).append("; }");
        b.append(" catch (RuntimeException e) { got = e.getClass().getSimpleName(); }");
        b.append(" ReadmeTest.due(\"").append(call).append("\", \"").append(want).append("\", got); }\n");
    }

    private static void run(Path place, String source) throws Exception {
        Path file = place.resolve("ReadmeExample.java");
        Files.writeString(file, source);
        String with = System.getProperty("java.class.path");
        int failed = ToolProvider.getSystemJavaCompiler().run(null, null, null, "-cp", with, "-d", place.toString(), file.toString());
        if (failed != 0) {
            wrong++;
            System.out.println("README.md: the example can't be compiled");
            return;
        }
        try (URLClassLoader loader = new URLClassLoader(new URL[] {place.toUri().toURL()})) {
            Method run = loader.loadClass("ReadmeExample").getMethod("run");
            run.invoke(null);
        }
    }

    private static void remove(Path place) throws Exception {
        try (Stream<Path> all = Files.walk(place)) {
            all.sorted(Comparator.reverseOrder()).map(Path::toFile).forEach(File::delete);
        }
    }
}
