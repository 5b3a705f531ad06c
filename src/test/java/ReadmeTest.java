import java.lang.reflect.Method;
import java.nio.file.Files;
import java.nio.file.Path;
import java.util.ArrayList;
import java.util.HashMap;
import java.util.List;
import java.util.Map;
import java.util.TreeMap;
import java.util.regex.Matcher;
import java.util.regex.Pattern;

/** Runs the calls that README.md shows: each must answer what stands behind it. */
final class ReadmeTest {
    private static final Pattern CALL =
            Pattern.compile("(?:int (\\w+) = )?x\\.(\\w+)\\(([^()]*)\\); +// (-?\\d+)(?:: .+)?");
    private static final Pattern ERROR = Pattern.compile("\\| ([A-Z]+) \\| (-\\d+) \\|");
    private static final String NEW_OBJECT = "FourthFace x = new FourthFace();";

    private final Due due = new Due("ReadmeTest");
    private final List<String> lines;
    private final Map<String, Long> named = new HashMap<>();
    private FourthFace x;

    private ReadmeTest(List<String> lines) {
        this.lines = lines;
    }

    public static void main(String[] args) throws Exception {
        ReadmeTest test = new ReadmeTest(Files.readAllLines(Path.of("README.md")));
        test.everyLineAnswersWhatItSays();
        test.everyActIsShown();
        test.theErrorsAreTold();
        test.everyTestIsNamed();
        test.due.close();
    }

    private List<String> shown() {
        List<String> shown = new ArrayList<>();
        boolean inside = false;
        for (String line : lines) {
            if (line.startsWith("```")) {
                inside = line.equals("```java");
            } else if (inside) {
                shown.add(line);
            }
        }
        return shown;
    }

    private void everyLineAnswersWhatItSays() throws Exception {
        for (String line : shown()) {
            if (line.equals(NEW_OBJECT)) {
                x = new FourthFace();
                named.clear();
                continue;
            }
            Matcher call = CALL.matcher(line);
            if (!call.matches() || x == null) {
                due.is("a line of another form: " + line, 0, 1);
                continue;
            }
            long answer = answerOf(call.group(2), call.group(3));
            due.is(line, answer, Long.parseLong(call.group(4)));
            if (call.group(1) != null) {
                named.put(call.group(1), answer);
            }
        }
    }

    private long answerOf(String name, String told) throws Exception {
        String[] words = told.isEmpty() ? new String[0] : told.split(", ");
        Method act = actOf(name);
        Class<?>[] types = act.getParameterTypes();
        Object[] values = new Object[words.length];
        for (int i = 0; i < words.length; i++) {
            long value = named.containsKey(words[i]) ? named.get(words[i]) : Long.decode(words[i].replace("L", ""));
            if (types[i] == long.class) {
                values[i] = value;
            } else {
                values[i] = Math.toIntExact(value);
            }
        }
        return ((Number) act.invoke(x, values)).longValue();
    }

    private static Method actOf(String name) {
        for (Method act : FourthFace.class.getDeclaredMethods()) {
            if (act.getName().equals(name)) {
                return act;
            }
        }
        throw new IllegalArgumentException("README.md shows no act of the class: " + name);
    }

    private void everyActIsShown() {
        for (Method act : FourthFace.class.getMethods()) {
            if (act.getDeclaringClass() == FourthFace.class) {
                due.is("shown: " + act.getName(), shows("x." + act.getName() + "(") ? 1 : 0, 1);
            }
        }
    }

    private boolean shows(String words) {
        for (String line : shown()) {
            if (line.contains(words)) {
                return true;
            }
        }
        return false;
    }

    private void theErrorsAreTold() {
        Map<String, Integer> told = new TreeMap<>();
        for (String line : lines) {
            Matcher error = ERROR.matcher(line);
            if (error.matches()) {
                told.put(error.group(1), Integer.parseInt(error.group(2)));
            }
        }
        Map<String, Integer> all = Map.of("BEYOND", Due.BEYOND, "NONE", Due.NONE, "STATE", Due.STATE, "FULL", Due.FULL,
                "KIND", Due.KIND, "PARTED", Due.PARTED);
        due.is("the ERRORS", told.equals(all) ? 1 : 0, 1);
    }

    private void everyTestIsNamed() throws Exception {
        String page = String.join("\n", lines);
        due.is("the command", page.contains("    bash .ci/run\n") ? 1 : 0, 1);
        try (var files = Files.list(Path.of("src/test/java"))) {
            for (Path file : files.toList()) {
                String name = file.getFileName().toString().replace(".java", "");
                if (name.endsWith("Test")) {
                    due.is("named: " + name, page.contains("`" + name + "`") ? 1 : 0, 1);
                }
            }
        }
    }
}
