import java.io.IOException;
import java.lang.reflect.InvocationTargetException;
import java.lang.reflect.Method;
import java.lang.reflect.Modifier;
import java.nio.charset.StandardCharsets;
import java.nio.file.Files;
import java.nio.file.Path;
import java.util.Arrays;
import java.util.List;
import java.util.Set;
import java.util.TreeSet;
import java.util.regex.Matcher;
import java.util.regex.Pattern;

/** README.md: each line of its examples answers what stands behind it, and its tables name all there is. */
public final class ReadmeTest {
    private static final Due DUE = new Due("ReadmeTest");
    private static final Pattern CALL = Pattern.compile("x\\.(\\w+)\\(([^)]*)\\); *// (-?\\d+): .*");
    private static final Pattern FINDING = Pattern.compile("\\| [A-Z]+ \\| (-\\d+) \\| (\\d) \\|.*");

    private static Method faceOf(String name) {
        return Arrays.stream(BustRest.class.getDeclaredMethods())
            .filter(m -> Modifier.isPublic(m.getModifiers()) && m.getName().equals(name)).findFirst().orElseThrow();
    }

    private static long call(BustRest x, String name, String arguments)
        throws IllegalAccessException, InvocationTargetException {
        Object[] numbers = arguments.isEmpty() ? new Object[0]
            : Arrays.stream(arguments.split(", ")).map(Integer::decode).toArray();
        return ((Number) faceOf(name).invoke(x, numbers)).longValue();
    }

    private static void examples(List<String> lines) throws IllegalAccessException, InvocationTargetException {
        boolean inside = false;
        BustRest x = null;
        int calls = 0;
        for (String line : lines) {
            Matcher m = CALL.matcher(line);
            if (line.startsWith("```")) {
                inside = line.equals("```java");
            } else if (inside && line.equals("BustRest x = new BustRest();")) {
                x = new BustRest();
            } else if (inside && m.matches()) {
                DUE.due(line, call(x, m.group(1), m.group(2)), Long.parseLong(m.group(3)));
                calls++;
            } else {
                DUE.due("a line of an example that is no call: " + line, inside ? 1 : 0, 0);
            }
        }
        DUE.due("there are examples", calls > 0 ? 1 : 0, 1);
    }

    private static void tableOfCalls(List<String> lines) {
        Set<String> face = new TreeSet<>();
        for (Method m : BustRest.class.getDeclaredMethods()) {
            if (Modifier.isPublic(m.getModifiers())) {
                face.add(m.getName());
            }
        }
        Set<String> told = new TreeSet<>();
        int from = lines.indexOf("| calls | what for |") + 2;
        for (int i = from; i < lines.size() && lines.get(i).startsWith("|"); i++) {
            Matcher m = Pattern.compile("`(\\w+)`").matcher(lines.get(i));
            while (m.find()) {
                told.add(m.group(1));
            }
        }
        DUE.due("the table of calls " + told, told.equals(face) ? 1 : 0, 1);
    }

    private static void tableOfFindings(List<String> lines) {
        int findings = 0;
        for (String line : lines) {
            Matcher m = FINDING.matcher(line);
            if (m.matches()) {
                DUE.due(line, Long.parseLong(m.group(1)), Due.BEYOND - findings);
                DUE.due(line, Long.parseLong(m.group(2)), findings);
                findings++;
            }
        }
        DUE.due("findings", findings, 7);
    }

    private static void tableOfTests(List<String> lines) {
        String[] files = Path.of("src/test/java").toFile().list((folder, file) -> file.endsWith("Test.java"));
        DUE.due("there are tests", files != null && files.length > 0 ? 1 : 0, 1);
        for (String file : files == null ? new String[0] : files) {
            String name = "`" + file.replace(".java", "") + "`";
            boolean told = lines.stream().anyMatch(l -> l.startsWith("| `") && l.contains(name));
            DUE.due("a row of " + name, told ? 1 : 0, 1);
        }
    }

    public static void main(String[] args) throws IOException, IllegalAccessException, InvocationTargetException {
        List<String> lines = Files.readAllLines(Path.of("README.md"), StandardCharsets.UTF_8);
        examples(lines);
        tableOfCalls(lines);
        tableOfFindings(lines);
        tableOfTests(lines);
        DUE.end();
    }
}
