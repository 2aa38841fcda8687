import java.lang.reflect.Constructor;
import java.lang.reflect.Field;
import java.lang.reflect.Method;
import java.lang.reflect.Modifier;
import java.nio.file.Files;
import java.nio.file.Path;
import java.util.ArrayList;
import java.util.Arrays;
import java.util.List;
import java.util.Set;
import java.util.TreeSet;
import java.util.regex.Matcher;
import java.util.regex.Pattern;

/** Looks at the class's face and at its source for what LANGUAGE.md rules out. Runs in the project's root. */
public final class LanguageTest {
    private static final String[] FACE = {
        "int begins(int,int)", "int peer(int,int)", "int gives(int,int)", "int sets(int,int)", "int rounds(int)",
        "int finishes(int)", "int of(int,int)", "int block(int,int,int)", "int rate(int,int)",
        "int suspects(int,int)", "int copies(int)", "int rarest()", "int ratio(int)", "int spread()",
        "long fairness()", "int count(int)", "int type(int)", "int clear()", "int does()", "int back()",
        "int told(int)", "long digest()",
    };
    private static final String[] RULED_OUT = {
        "\\bimport\\b", "\\bpackage\\b", "\\btry\\b", "\\bcatch\\b", "\\bfinally\\b", "\\bsynchronized\\b",
        "\\bassert\\b", "->", "::", "\\bFloat\\b", "\\bDouble\\b", "\\bSystem\\.(?!arraycopy\\b)", "Exact\\b",
        "\\bMath\\.\\w+\\([^)]*(float|double)", "\\bfor \\(;;", "\\bwhile \\(true", "\\bObject\\b", "\\bthrow\\b",
        "\\bstatic \\{", "\\bprotected\\b", "[^\\x00-\\x7f]",
    };

    private static int wrong = 0;

    public static void main(String[] args) throws Exception {
        checkFace();
        String source = Files.readString(Path.of("src/main/java/PieceSwarm.java"));
        checkSource(source);
        checkLengths(source);
        checkMaking(source);
        System.out.println(wrong == 0 ? "the language's rules are kept" : wrong + " rules are broken");
        if (wrong != 0) {
            System.exit(1);
        }
    }

    private static void fail(String why) {
        wrong++;
        System.out.println(why);
    }

    private static void checkFace() {
        Set<String> due = new TreeSet<>(Arrays.asList(FACE));
        Set<String> names = new TreeSet<>();
        Set<String> found = new TreeSet<>();
        List<Method> hidden = new ArrayList<>();
        for (Method m : PieceSwarm.class.getDeclaredMethods()) {
            if (Modifier.isPrivate(m.getModifiers())) {
                hidden.add(m);
                continue;
            }
            names.add(m.getName());
            String row = m.toGenericString().replaceFirst(".*?(int|long|\\w+) PieceSwarm\\.", "$1 ");
            found.add(row.replace(", ", ","));
            if (m.getModifiers() != Modifier.PUBLIC) {
                fail("rule 1: " + m);
            }
        }
        if (!found.equals(due)) {
            fail("rule 1: the face is " + found);
        }
        for (Method m : hidden) {
            if (names.contains(m.getName())) {
                fail("rule 1: a private method bears a public name: " + m);
            }
        }
        Set<String> constants = new TreeSet<>();
        for (Field f : PieceSwarm.class.getDeclaredFields()) {
            if (!Modifier.isPrivate(f.getModifiers())) {
                constants.add(f.toString());
            } else if (Modifier.isStatic(f.getModifiers()) && !Modifier.isFinal(f.getModifiers())) {
                fail("rule 5: " + f);
            }
        }
        if (constants.size() != 4 || !constants.toString().matches("\\[(public static final int \\S+(, )?){4}\\]")) {
            fail("rule 1: the constants are " + constants);
        }
        Constructor<?>[] makers = PieceSwarm.class.getDeclaredConstructors();
        if (makers.length != 1 || !makers[0].toString().equals("public PieceSwarm()")) {
            fail("rule 1: the constructors are " + Arrays.toString(makers));
        }
        checkClasses();
    }

    private static void checkClasses() {
        Class<?>[] inside = PieceSwarm.class.getDeclaredClasses();
        if (!Modifier.isFinal(PieceSwarm.class.getModifiers()) || inside.length > 11) {
            fail("rules 1 and 11: final, and at most some twelve classes");
        }
        for (Class<?> c : inside) {
            if (!Modifier.isStatic(c.getModifiers())) {
                fail("rule 1: not static: " + c);
            }
            int fields = 0;
            for (Field f : c.getDeclaredFields()) {
                fields += Modifier.isStatic(f.getModifiers()) ? 0 : 1;
            }
            if (fields > 20) {
                fail("rule 11: " + fields + " fields in " + c);
            }
        }
    }

    private static void checkSource(String source) {
        String code = source.replaceAll("(?s)/\\*.*?\\*/", "").replaceAll("//[^\n]*", "");
        for (String pattern : RULED_OUT) {
            Matcher m = Pattern.compile(pattern).matcher(code);
            if (m.find()) {
                fail("LANGUAGE.md: '" + m.group() + "' is ruled out by " + pattern);
            }
        }
    }

    /** A method begins on a line indented by 4 or 8 that ends with ") {". */
    private static void checkLengths(String source) {
        String[] lines = source.split("\n");
        for (int at = 0; at < lines.length; at++) {
            Matcher m = Pattern.compile("( {4}| {8})[a-zA-Z][^=;]*\\) \\{").matcher(lines[at]);
            if (!m.matches() || lines[at].matches(" *(if|for|while|switch|do|else)\\b.*")) {
                continue;
            }
            int end = at;
            while (end < lines.length && !lines[end].equals(m.group(1) + "}")) {
                end++;
            }
            if (end - at > 60) {
                fail("rule 11: " + (end - at) + " lines: " + lines[at].trim());
            }
            if (lines[at].chars().filter(c -> c == ',').count() > 6) {
                fail("rule 11: too many parameters: " + lines[at].trim());
            }
        }
    }

    /** All calls of a run share one room (rule 12): only constructors make anything. */
    private static void checkMaking(String source) {
        String method = "";
        for (String line : source.split("\n")) {
            Matcher m = Pattern.compile("( {4}| {8})([a-zA-Z][^=;(]*)\\([^=;]*\\) \\{").matcher(line);
            if (m.matches() && !m.group(2).trim().matches("(if|for|while|switch)")) {
                method = m.group(2).trim();
            }
            boolean maker = method.matches("(public )?(PieceSwarm|Peer|Swarm|Round|Text)");
            if (!maker && line.matches(".*(\\bnew |\\.clone\\(|\\bArrays\\.copyOf).*") && !line.trim().startsWith("*")
                    && !line.contains("/**")) {
                fail("rule 12: " + method + " makes something: " + line.trim());
            }
        }
    }
}
