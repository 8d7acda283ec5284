import java.lang.reflect.Method;
import java.lang.reflect.Modifier;
import java.nio.file.Files;
import java.nio.file.Path;
import java.util.ArrayList;
import java.util.List;
import java.util.Set;
import java.util.TreeSet;
import java.util.regex.Matcher;
import java.util.regex.Pattern;
import java.util.stream.Stream;

/** What README.md says of the class and of its tests is so; run from the project's directory, as .ci/run does. */
public final class ReadmeTest {
    private static final String MADE = "OwnSunday x = new OwnSunday();";
    private static final Pattern CALL = Pattern.compile("x\\.(\\w+)\\((.*?)\\);\\s+// (-?\\w+)(:.*)?");
    private static final Pattern TEST = Pattern.compile("- `(\\w+)`: .*");

    private static int wrong = 0;
    private static int asked = 0;

    private static void due(String what, Object got, Object want) {
        asked++;
        if (!got.equals(want)) {
            wrong++;
            System.out.println(what + " is " + got + ", due is " + want);
        }
    }

    /** The lines from the one behind the first to the one ahead of the last. */
    private static List<String> between(List<String> lines, String first, String last) {
        int from = lines.indexOf(first) + 1;
        List<String> behind = lines.subList(from, lines.size());
        int to = behind.indexOf(last);
        due("README.md has " + first + " and " + last + " behind it", from > 0 && to >= 0, true);
        return from > 0 && to >= 0 ? behind.subList(0, to) : new ArrayList<>();
    }

    private static Method method(String name) {
        for (Method m : OwnSunday.class.getDeclaredMethods()) {
            if (m.getName().equals(name) && Modifier.isPublic(m.getModifiers())) {
                return m;
            }
        }
        return null;
    }

    private static Object argument(String written, Class<?> type) {
        if (type == boolean.class) {
            return Boolean.valueOf(written);
        }
        long v = written.startsWith("'") ? written.charAt(1) : Long.decode(written.replace("L", ""));
        return type == long.class ? (Object) v : (Object) Math.toIntExact(v);
    }

    private static long answer(String written) throws Exception {
        return Character.isLetter(written.charAt(0)) ? OwnSunday.class.getField(written).getInt(null)
            : Long.parseLong(written);
    }

    private static void call(OwnSunday x, Matcher line) throws Exception {
        Method m = method(line.group(1));
        String[] written = line.group(2).isEmpty() ? new String[0] : line.group(2).split(", ");
        due("there is a call as in " + line.group(), m != null && m.getParameterCount() == written.length, true);
        if (m == null || m.getParameterCount() != written.length) {
            return;
        }
        Object[] arguments = new Object[written.length];
        for (int k = 0; k < written.length; k++) {
            arguments[k] = argument(written[k], m.getParameterTypes()[k]);
        }
        long got = ((Number) m.invoke(x, arguments)).longValue();
        due("the answer of " + line.group(), got, answer(line.group(3)));
    }

    private static void theCallsAnswerAsTheySay(List<String> readme) throws Exception {
        OwnSunday x = new OwnSunday();
        Set<String> shown = new TreeSet<>();
        List<String> lines = between(readme, "```java", "```");
        due("the first line of the use", lines.isEmpty() ? "" : lines.get(0), MADE);
        for (String line : lines) {
            Matcher m = CALL.matcher(line);
            if (m.matches()) {
                call(x, m);
                shown.add(m.group(1));
            } else {
                due("a call with its answer, or nothing: " + line, line.isEmpty() || line.equals(MADE), true);
            }
        }
        Set<String> face = new TreeSet<>();
        for (Method m : OwnSunday.class.getDeclaredMethods()) {
            if (Modifier.isPublic(m.getModifiers())) {
                face.add(m.getName());
            }
        }
        due("the calls that are shown", shown, face);
    }

    /** What a written byte stands for is told behind it: so the text that is shown is the one that is written. */
    private static void theBytesAreAsTheySay(List<String> readme) {
        Pattern written = Pattern.compile("x\\.write\\((\\d), 0x(\\w+)L\\);\\s+// \\d+: \"(.*)\"");
        for (String line : readme) {
            Matcher m = written.matcher(line);
            if (m.matches()) {
                StringBuilder hex = new StringBuilder();
                for (char c : m.group(3).toCharArray()) {
                    hex.append(String.format("%02x", (int) c));
                }
                due("the bytes of " + m.group(3), m.group(2), hex.toString());
                due("how many bytes " + m.group(3) + " has", Integer.valueOf(m.group(1)), m.group(3).length());
            }
        }
    }

    private static void theTestsAreThese(List<String> readme) throws Exception {
        Set<String> told = new TreeSet<>();
        for (String line : readme.subList(readme.indexOf("## Tests") + 1, readme.size())) {
            Matcher m = TEST.matcher(line);
            if (m.matches()) {
                told.add(m.group(1));
            }
        }
        Set<String> there = new TreeSet<>();
        try (Stream<Path> files = Files.list(Path.of("src/test/java"))) {
            files.forEach(f -> there.add(f.getFileName().toString().replace(".java", "")));
        }
        due("the tests that README.md tells", told, there);
        due(".ci/run can be run", Files.isExecutable(Path.of(".ci/run")), true);
        due("README.md names .ci/run", readme.contains("    .ci/run"), true);
    }

    public static void main(String[] args) throws Exception {
        List<String> readme = Files.readAllLines(Path.of("README.md"));
        theCallsAnswerAsTheySay(readme);
        theBytesAreAsTheySay(readme);
        theTestsAreThese(readme);
        System.out.println(asked + " things that README.md says, " + wrong + " not so");
        if (wrong != 0) {
            System.exit(1);
        }
    }
}
