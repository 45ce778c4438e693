import java.io.IOException;
import java.lang.reflect.Method;
import java.lang.reflect.Modifier;
import java.nio.file.Files;
import java.nio.file.Path;
import java.util.ArrayList;
import java.util.List;

/** README.md's examples are called line by line: each answers what stands behind it; and each call is told of. */
public final class ReadmeTest {
    private static final Path README = Path.of("README.md");
    private static final String MADE = "TideGauges x = new TideGauges();";

    private final List<String> lines;
    private int at = 0;

    private ReadmeTest(List<String> lines) {
        this.lines = lines;
    }

    public static void main(String[] args) throws IOException {
        List<String> readme = Files.readAllLines(README);
        ReadmeTest test = new ReadmeTest(examples(readme));
        TideGauges x = new TideGauges();
        holds("the examples begin with " + MADE, test.next().equals(MADE));
        test.rows(x);
        test.refusals(x);
        test.gauges(x);
        test.racks(x);
        holds("no example is left uncalled", test.next().isEmpty());
        everyCallIsTold(readme);
        Due.end();
    }

    private static List<String> examples(List<String> readme) {
        List<String> lines = new ArrayList<>();
        boolean inside = false;
        for (String line : readme) {
            if (line.startsWith("```")) {
                inside = line.equals("```java");
            } else if (inside && !line.isBlank()) {
                lines.add(line);
            }
        }
        return lines;
    }

    private static void holds(String what, boolean held) {
        Due.due(what, held ? 1 : 0, 1);
    }

    private String next() {
        at++;
        return at <= lines.size() ? lines.get(at - 1) : "";
    }

    /** The next line of the examples is this code, and its comment begins with this answer. */
    private void line(String code, Object answer) {
        String line = next();
        String[] parts = line.split(" +// ", 2);
        holds("README.md goes on with " + code + ", not with " + line, parts[0].equals(code + ";"));
        String said = parts.length == 2 ? parts[1].replaceAll(":.*", "") : "";
        holds("README.md's '" + line + "', which answered " + answer, said.equals(String.valueOf(answer)));
    }

    private void toldDouble(TideGauges x) {
        line("Double.longBitsToDouble(x.told())", Double.longBitsToDouble(x.told()));
    }

    private void toldFloat(TideGauges x) {
        line("Float.intBitsToFloat((int) x.told())", Float.intBitsToFloat((int) x.told()));
    }

    private void rows(TideGauges x) {
        line("x.row(0, true, 3)", x.row(0, true, 3));
        line("x.put(0, true, 0, Double.doubleToRawLongBits(12.5))", x.put(0, true, 0, Due.d(12.5)));
        line("x.tide(0, true, 1, 108)", x.tide(0, true, 1, 108));
        toldDouble(x);
        line("x.put(0, true, 2, Double.doubleToRawLongBits(-30.75))", x.put(0, true, 2, Due.d(-30.75)));
        line("x.rest(0, true, 2, 0)", x.rest(0, true, 2, 0));
        toldDouble(x);
        line("x.turn(0, true, 2, 0)", x.turn(0, true, 2, 0));
        line("x.told()", x.told());
        line("x.sum(0, true, 0, 3)", x.sum(0, true, 0, 3));
        toldDouble(x);
        line("x.share(0, 5)", x.share(0, 5));
        line("x.clear(0)", x.clear(0));
        line("x.count(8)", x.count(8));
        line("x.row(1, false, 2)", x.row(1, false, 2));
        line("x.put(1, false, 0, Float.floatToRawIntBits(0.1f))", x.put(1, false, 0, Due.f(0.1f)));
        line("x.get(1, false, 0)", x.get(1, false, 0));
        toldFloat(x);
        line("x.turn(1, false, 0, 6)", x.turn(1, false, 0, 6));
        toldDouble(x);
    }

    private void refusals(TideGauges x) {
        line("x.get(1, true, 0)", x.get(1, true, 0));
        line("x.get(0, true, 0)", x.get(0, true, 0));
        line("x.get(1, false, 2)", x.get(1, false, 2));
        line("x.rest(1, false, 0, 1)", x.rest(1, false, 0, 1));
        line("x.get(8, true, 0)", x.get(8, true, 0));
        toldDouble(x);
        line("x.round(16777217, 1)", x.round(16777217, 1));
        line("x.round(16777217, 3)", x.round(16777217, 3));
    }

    private void gauges(TideGauges x) {
        line("x.gauge(0, 0, Double.doubleToRawLongBits(2.5))", x.gauge(0, 0, Due.d(2.5)));
        line("x.gauge(1, 1, Double.doubleToRawLongBits(2.5))", x.gauge(1, 1, Due.d(2.5)));
        line("x.gauge(2, 2, Double.doubleToRawLongBits(2.5))", x.gauge(2, 2, Due.d(2.5)));
        line("x.read(0, Double.doubleToRawLongBits(-6.0), false)", x.read(0, Due.d(-6.0), false));
        toldDouble(x);
        line("x.read(1, Double.doubleToRawLongBits(-6.0), true)", x.read(1, Due.d(-6.0), true));
        toldFloat(x);
        line("x.read(2, Double.doubleToRawLongBits(6.75), false)", x.read(2, Due.d(6.75), false));
        toldDouble(x);
        line("x.read(3, Double.doubleToRawLongBits(6.75), false)", x.read(3, Due.d(6.75), false));
    }

    private void racks(TideGauges x) {
        line("x.rack(0, 0)", x.rack(0, 0));
        line("x.hang(0, 0, 1)", x.hang(0, 0, 1));
        line("x.hang(0, 1, 2)", x.hang(0, 1, 2));
        line("x.take(0, 0, 2, 3)", x.take(0, 0, 2, 3));
        line("x.take(0, 0, 0, 3)", x.take(0, 0, 0, 3));
        line("x.count(14)", x.count(14));
        line("x.take(0, 3, 0, 3)", x.take(0, 3, 0, 3));
        line("x.count(1)", x.count(1));
    }

    private static void everyCallIsTold(List<String> readme) {
        for (Method method : TideGauges.class.getDeclaredMethods()) {
            if (Modifier.isPublic(method.getModifiers())) {
                holds("README.md has a row for " + method, hasRow(readme, method));
            }
        }
    }

    /** A row of the tables of calls, with as many arguments as the call takes. */
    private static boolean hasRow(List<String> readme, Method method) {
        String oneOrMore = "\\w+(, \\w+){" + (method.getParameterCount() - 1) + "}";
        String arguments = method.getParameterCount() == 0 ? "" : oneOrMore;
        for (String line : readme) {
            if (line.matches("\\| `" + method.getName() + "\\(" + arguments + "\\)` \\| .*")) {
                return true;
            }
        }
        return false;
    }
}
