import java.lang.reflect.Method;
import java.nio.file.Files;
import java.nio.file.Path;
import java.util.regex.Matcher;
import java.util.regex.Pattern;

/** Runs the calls that README.md shows, and compares the answers with the numbers behind them. */
public final class ReadmeTest {
    private static final Pattern SHOWN =
            Pattern.compile("town\\.(\\w+)\\(([^)]*)\\);\\s*// (-?\\d+)(:.*)?");

    private static int wrong = 0;
    private static int calls = 0;

    public static void main(String[] args) throws Exception {
        // The lines of all examples are one run: the later ones go on with the town of the earlier ones.
        PaperRounds town = new PaperRounds();
        for (String line : Files.readAllLines(Path.of("README.md"))) {
            Matcher shown = SHOWN.matcher(line);
            if (shown.matches()) {
                check(town, shown.group(1), shown.group(2), Integer.parseInt(shown.group(3)));
            } else if (line.startsWith("town.")) {
                complain("not of the form of a call with its answer: " + line);
            }
        }
        if (calls == 0) {
            complain("README.md shows no call");
        }
        System.out.println(calls + " calls of README.md, " + wrong + " wrong");
        if (wrong != 0) {
            System.exit(1);
        }
    }

    private static void check(PaperRounds town, String name, String arguments, int due) throws Exception {
        Object[] values = valuesOf(arguments);
        Class<?>[] types = new Class<?>[values.length];
        java.util.Arrays.fill(types, int.class);
        Method method = PaperRounds.class.getMethod(name, types);
        int got = (Integer) method.invoke(town, values);
        calls++;
        if (got != due) {
            complain(name + "(" + arguments + ") answered " + got + ", README.md says " + due);
        }
    }

    private static Object[] valuesOf(String arguments) {
        if (arguments.isEmpty()) {
            return new Object[0];
        }
        String[] parts = arguments.split(",");
        Object[] values = new Object[parts.length];
        for (int i = 0; i < parts.length; i++) {
            String part = parts[i].trim();
            values[i] = part.startsWith("'") ? (int) part.charAt(1) : Integer.parseInt(part);
        }
        return values;
    }

    private static void complain(String what) {
        wrong++;
        System.out.println(what);
    }
}
