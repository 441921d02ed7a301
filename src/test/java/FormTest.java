import java.lang.reflect.Executable;
import java.lang.reflect.Field;
import java.lang.reflect.Method;
import java.lang.reflect.Modifier;
import java.nio.charset.StandardCharsets;
import java.nio.file.Files;
import java.nio.file.Path;
import java.util.ArrayList;
import java.util.List;
import java.util.Set;
import java.util.TreeSet;
import java.util.regex.Matcher;
import java.util.regex.Pattern;

/** The public face of the document, and what of LANGUAGE.md can be seen from outside or from the source. */
public final class FormTest {
    private static final Path SOURCE = Path.of("src/main/java/OneWithTheBags.java");
    private static final String[] FACE = {"int sign(int)", "boolean end(int)", "int station()", "int wishes(int)", "int rule()",
        "int plan()", "int person(int,int)", "int errand(int,int)", "int trip(int,int)", "int wish(int,int,int)",
        "int train(int)", "int sheet(int,int,int,int)", "int may(int,int,int)", "int go(int,int,int)",
        "int pair(int,int,int,int)", "int strike(int)", "int shift(int,int)", "int afternoon()", "int undo()", "int alone()",
        "int bench(int)", "int worth()", "int stays()", "int stuck()", "int hands(int,int)", "int earliest(int,int)",
        "int latest(int,int)", "int best(int)", "int most(int)", "int open()", "int mend()", "int parts()", "int turn()",
        "int lockers(int)", "int left(int,int)", "int slack(int)", "int tight()", "int chance(int,int)",
        "int seen(int,int,int)", "int forget()", "int fits()", "int since(int,int)", "int stayed(int)",
        "int journey(int,int,int)", "boolean keep(int)", "boolean again(int)", "int count(int)", "long row(int)"};
    private static final String[] FORBIDDEN = {"->", "::", "synchronized", "finally", "assert", "catch", "package ", "System\\.out",
        "double", "float", "Exact\\(", "hashCode", "toString", "Object", "\" \\+", "\\+ \"", "random", "static \\{", "goto",
        "Thread", "interface .*Function", "String\\.format", "var "};
    private static int wrong = 0;

    private static void check(String what, boolean good) {
        if (!good) {
            wrong++;
            System.out.println(what);
        }
    }

    public static void main(String[] args) throws Exception {
        face();
        classes();
        source();
        System.out.println(wrong == 0 ? "the form is kept" : wrong + " faults of form");
        if (wrong != 0) {
            System.exit(1);
        }
    }

    private static void face() {
        Class<?> c = OneWithTheBags.class;
        check("the class is public and final", Modifier.isPublic(c.getModifiers()) && Modifier.isFinal(c.getModifiers()));
        check("one public constructor", c.getDeclaredConstructors().length == 1 && c.getConstructors().length == 1);
        Set<String> want = new TreeSet<>(List.of(FACE));
        Set<String> got = new TreeSet<>();
        for (Method m : c.getDeclaredMethods()) {
            if (!Modifier.isPrivate(m.getModifiers())) {
                StringBuilder b = new StringBuilder(m.getReturnType() + " " + m.getName() + "(");
                for (Class<?> p : m.getParameterTypes()) {
                    b.append(b.charAt(b.length() - 1) == '(' ? "" : ",").append(p);
                }
                got.add(b.append(')').toString());
                check(m + " is public and no static one", m.getModifiers() == Modifier.PUBLIC);
            }
        }
        check("the face is " + got, want.equals(got));
        for (Field f : c.getDeclaredFields()) {
            check(f + " is private", Modifier.isPrivate(f.getModifiers()) || f.getName().equals("NONE"));
            check(f + " is final, if static", !Modifier.isStatic(f.getModifiers()) || Modifier.isFinal(f.getModifiers()));
        }
    }

    private static void classes() {
        Set<String> names = new TreeSet<>();
        for (String f : FACE) {
            names.add(f.replaceAll("^\\w+ |\\(.*", ""));
        }
        Class<?>[] inside = OneWithTheBags.class.getDeclaredClasses();
        check("at most twelve classes", inside.length + 1 <= 12);
        List<Executable> all = new ArrayList<>(List.of(OneWithTheBags.class.getDeclaredMethods()));
        for (Class<?> c : inside) {
            check(c + " is static and not public", Modifier.isStatic(c.getModifiers()) && !Modifier.isPublic(c.getModifiers()));
            all.addAll(List.of(c.getDeclaredMethods()));
            all.addAll(List.of(c.getDeclaredConstructors()));
            int fields = 0;
            for (Field f : c.getDeclaredFields()) {
                boolean constant = Modifier.isStatic(f.getModifiers());
                check(f + " is final, if static", !constant || Modifier.isFinal(f.getModifiers()));
                fields += constant ? 0 : 1;
            }
            check(c + " has at most twenty fields", fields <= 20);
            for (Method m : c.getDeclaredMethods()) {
                check(m + " bears the name of a call", !names.contains(m.getName()));
            }
        }
        for (Executable e : all) {
            check(e + " has at most seven parameters", e.getParameterCount() <= 7);
        }
    }

    private static void source() throws Exception {
        String text = Files.readString(SOURCE, StandardCharsets.ISO_8859_1);
        check("signs 1 to 127", text.chars().allMatch(c -> c > 0 && c < 128));
        String code = text.replaceAll("(?s)/\\*.*?\\*/", "").replaceAll("//[^\n]*", "");
        for (String f : FORBIDDEN) {
            Matcher m = Pattern.compile(f).matcher(code);
            check("the source has " + f, !m.find());
        }
        Matcher imports = Pattern.compile("import ([^;]*);").matcher(code);
        while (imports.find()) {
            check("import " + imports.group(1), List.of("java.util.Arrays", "java.util.NoSuchElementException").contains(imports.group(1)));
        }
        String[] lines = text.split("\n");
        for (int k = 0; k < lines.length; k++) {
            Matcher m = Pattern.compile("^(    |        )[a-zA-Z].*\\) (throws \\w+ )?\\{$").matcher(lines[k]);
            if (m.matches()) {
                int end = k;
                while (end < lines.length && !lines[end].equals(m.group(1) + "}")) {
                    end++;
                }
                check("lines of" + lines[k], end - k + 1 <= 60);
            }
        }
    }
}
