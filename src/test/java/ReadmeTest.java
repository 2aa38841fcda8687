import java.lang.reflect.Method;
import java.lang.reflect.Modifier;
import java.nio.file.Files;
import java.nio.file.Path;
import java.util.List;
import java.util.regex.Matcher;
import java.util.regex.Pattern;

/** Plays the examples of README.md and looks whether it tells of each call. Runs in the project's root. */
public final class ReadmeTest extends Checks {
    private static final Pattern MAKING = Pattern.compile("PieceSwarm x = new PieceSwarm\\(\\);");
    private static final Pattern CALL = Pattern.compile("x\\.(\\w+)\\(([^)]*)\\); +// (-?\\d+)(:.*)?");
    private static final Pattern ROW = Pattern.compile("\\| `(\\w+)\\(([^)]*)\\)` \\| (S?) ?\\| \\S.* \\|");
    private static final List<String> LEAVE_STATES =
            List.of("begins", "peer", "gives", "sets", "rounds", "finishes", "does");

    public static void main(String[] args) throws Exception {
        List<String> lines = Files.readAllLines(Path.of("README.md"));
        playExamples(lines);
        lookAtRows(lines);
        endWithExitCode();
    }

    private static void playExamples(List<String> lines) throws Exception {
        PieceSwarm x = null;
        boolean inside = false;
        int examples = 0;
        for (String line : lines) {
            if (line.startsWith("```")) {
                inside = line.equals("```java");
                examples += inside ? 1 : 0;
            } else if (inside && MAKING.matcher(line).matches()) {
                x = new PieceSwarm();
            } else if (inside) {
                playLine(x, line);
            }
        }
        due("examples", 2, examples);
    }

    private static void playLine(PieceSwarm x, String line) throws Exception {
        Matcher m = CALL.matcher(line);
        due("a call and its answer: " + line, 1, m.matches() && x != null ? 1 : 0);
        if (m.matches() && x != null) {
            due(line, Long.parseLong(m.group(3)), call(x, m.group(1), m.group(2)));
        }
    }

    private static long call(PieceSwarm x, String name, String numbers) throws Exception {
        String[] words = numbers.isEmpty() ? new String[0] : numbers.split(", ");
        Class<?>[] types = new Class<?>[words.length];
        Object[] values = new Object[words.length];
        for (int k = 0; k < words.length; k++) {
            types[k] = int.class;
            values[k] = words[k].startsWith("'") ? (int) words[k].charAt(1) : Integer.parseInt(words[k]);
        }
        return ((Number) PieceSwarm.class.getMethod(name, types).invoke(x, values)).longValue();
    }

    /** Each call of the face has one row, with as many numbers as it takes and its S. */
    private static void lookAtRows(List<String> lines) {
        for (Method call : PieceSwarm.class.getDeclaredMethods()) {
            if (!Modifier.isPublic(call.getModifiers())) {
                continue;
            }
            int rows = 0;
            for (String line : lines) {
                Matcher m = ROW.matcher(line);
                if (m.matches() && m.group(1).equals(call.getName())) {
                    rows++;
                    int numbers = m.group(2).isEmpty() ? 0 : m.group(2).split(", ").length;
                    due("numbers of " + call.getName(), call.getParameterCount(), numbers);
                    due("S of " + call.getName(), LEAVE_STATES.contains(call.getName()) ? 1 : 0, m.group(3).length());
                }
            }
            due("rows of " + call.getName(), 1, rows);
        }
    }
}
