import java.io.IOException;
import java.lang.reflect.Method;
import java.nio.file.Files;
import java.nio.file.Path;
import java.util.ArrayList;
import java.util.Arrays;
import java.util.List;
import java.util.Set;
import java.util.TreeSet;
import java.util.regex.Matcher;
import java.util.regex.Pattern;

/** README.md's example: each call answers what stands beside it, and no method is left out there. */
final class ReadmeTest {
    private static final Pattern CALL =
            Pattern.compile("ledger\\.(\\w+)\\(([^)]*)\\); +// (-?\\d+|REFUSED|FULL|NONE)\\b.*");
    private static final Pattern NAMED_IN_TABLE = Pattern.compile("`(\\w+)\\(");

    private final Check check = new Check("README.md");
    private final GroupLedger ledger = new GroupLedger();

    public static void main(String[] args) throws IOException, ReflectiveOperationException {
        List<String> readme = Files.readAllLines(Path.of("README.md"));
        ReadmeTest test = new ReadmeTest();
        for (String line : linesOfExample(readme)) {
            test.callIn(line);
        }
        test.check.due("methods in the table", methodsInTable(readme), methodsOfFace());
        test.check.finish();
    }

    private static List<String> linesOfExample(List<String> readme) {
        int begin = readme.indexOf("```java") + 1;
        List<String> rest = readme.subList(begin, readme.size());
        List<String> lines = new ArrayList<>(rest.subList(0, rest.indexOf("```")));
        lines.removeIf(line -> !line.startsWith("ledger."));
        return lines;
    }

    private void callIn(String line) throws ReflectiveOperationException {
        Matcher parts = CALL.matcher(line);
        check.due("a call with its answer: " + line, parts.matches(), true);
        Object[] arguments = numbersIn(parts.group(2));
        Class<?>[] types = new Class<?>[arguments.length];
        Arrays.fill(types, int.class);
        Method method = GroupLedger.class.getMethod(parts.group(1), types);
        check.due(line, method.invoke(ledger, arguments), answer(parts.group(3)));
    }

    private static Object[] numbersIn(String list) {
        return list.isEmpty() ? new Object[0]
                : Arrays.stream(list.split(", ")).map(Integer::valueOf).toArray();
    }

    private static Object answer(String told) throws ReflectiveOperationException {
        return Character.isLetter(told.charAt(0))
                ? GroupLedger.class.getField(told).get(null) : Integer.valueOf(told);
    }

    private static Set<String> methodsInTable(List<String> readme) {
        Set<String> names = new TreeSet<>();
        for (String line : readme) {
            Matcher named = NAMED_IN_TABLE.matcher(line);
            while (line.startsWith("| `") && named.find()) {
                names.add(named.group(1));
            }
        }
        return names;
    }

    private static Set<String> methodsOfFace() {
        Set<String> names = new TreeSet<>();
        for (Method method : GroupLedger.class.getMethods()) {
            if (method.getDeclaringClass() == GroupLedger.class) {
                names.add(method.getName());
            }
        }
        return names;
    }
}
