import java.io.IOException;
import java.lang.reflect.Method;
import java.nio.file.Files;
import java.nio.file.Path;
import java.util.Set;
import java.util.TreeSet;
import java.util.regex.Matcher;
import java.util.regex.Pattern;

/** README.md says how to use the class: its run of calls answers what stands beside each call. */
public final class ReadmeTest {
    private static final Pattern CALL =
            Pattern.compile("desk\\.(\\w+)\\(([-\\d, ]*)\\);\\s*// (true|false|-?\\d+)\\b.*");

    public static void main(String[] args) throws ReflectiveOperationException, IOException {
        Check check = new Check("README.md");
        Path root = Path.of(args[0]).resolve("../../../..").normalize();
        CheapHours desk = new CheapHours();
        Set<String> shown = new TreeSet<>();
        for (String line : Files.readAllLines(root.resolve("README.md"))) {
            if (!line.startsWith("desk.")) {
                continue;
            }
            Matcher matcher = CALL.matcher(line);
            if (matcher.matches()) {
                shown.add(matcher.group(1));
                String got = answer(desk, matcher.group(1), matcher.group(2));
                check.same(matcher.group(1) + "(" + matcher.group(2) + ")", got, matcher.group(3));
            } else {
                check.fault("no answer stands beside " + line);
            }
        }
        check.same("calls shown", shown.toString(), "[capped, count, full, go, job, level, levels, "
                + "mean, oracle, price, rule, span, table, told, worst]");
        check.end();
    }

    private static String answer(CheapHours desk, String name, String numbers)
            throws ReflectiveOperationException {
        for (Method method : CheapHours.class.getMethods()) {
            if (method.getName().equals(name)) {
                String[] parts = numbers.split(",");
                Object[] values = new Object[parts.length];
                for (int i = 0; i < parts.length; i++) {
                    values[i] = Integer.valueOf(parts[i].trim());
                }
                return String.valueOf(method.invoke(desk, values));
            }
        }
        return "no such call";
    }
}
