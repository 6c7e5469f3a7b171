import java.io.IOException;
import java.lang.reflect.Field;
import java.lang.reflect.Method;
import java.nio.file.Files;
import java.nio.file.Path;
import java.util.ArrayList;
import java.util.Arrays;
import java.util.List;
import java.util.regex.Matcher;
import java.util.regex.Pattern;
import java.util.stream.Stream;

/** README.md: each call it shows answers what stands behind it, its tables are those of the class, and it names every test. */
public final class ReadmeTest {
    private static final Pattern CALL = Pattern.compile("x\\.(\\w+\\(.*?\\));\\s*// (-?\\d+|[A-Z]+)\\b.*");
    private static final Pattern CONSTANT = Pattern.compile("\\| `([A-Z]+)` \\| (-\\d+) \\|.*");
    private static final Pattern ROW = Pattern.compile("\\| `(\\w+)\\(([^)]*)\\)` \\|.*");
    private static final int MOST_CALLS = 512;

    private static final Due due = new Due();

    public static void main(String[] args) throws IOException, IllegalAccessException {
        Path root = Path.of(System.getProperty("root", "."));
        List<String> lines = Files.readAllLines(root.resolve("README.md"));
        callsAnswer(lines);
        constants(lines);
        callsAreAll(lines);
        says(lines);
        namesTests(lines, root.resolve("src/test/java"));
        due.end();
    }

    private static void yes(String what, boolean holds) {
        due.is(what, holds ? 1 : 0, 1);
    }

    private static void callsAnswer(List<String> lines) throws IllegalAccessException {
        due.part("README.md, calls");
        WaterButts x = null;
        boolean java = false;
        int made = 0;
        for (String line : lines) {
            if (line.startsWith("```")) {
                java = line.equals("```java");
            } else if (java && line.equals("WaterButts x = new WaterButts();")) {
                x = new WaterButts();
            } else if (java && !line.isBlank()) {
                Matcher m = CALL.matcher(line);
                yes("a line that shows a call and its answer: " + line, x != null && m.matches());
                Calls.Call c = Calls.of(plain(m.group(1))).get(0);
                due.is(line, Calls.call(x, c.promise(), c.args()), answer(m.group(2)));
                made++;
            }
        }
        yes("there are calls, and not more than an object is for: " + made, made > 40 && made <= MOST_CALLS);
    }

    /** Hexadecimal numbers and names of constants as Calls takes them. */
    private static String plain(String call) {
        return Pattern.compile("0x([0-9a-f]{8})").matcher(call.replace("WaterButts.", ""))
            .replaceAll(m -> String.valueOf(Integer.parseUnsignedInt(m.group(1), 16)));
    }

    private static int answer(String word) throws IllegalAccessException {
        for (Field f : WaterButts.class.getFields()) {
            if (f.getName().equals(word)) {
                return f.getInt(null);
            }
        }
        return Integer.parseInt(word);
    }

    private static void constants(List<String> lines) throws IllegalAccessException {
        due.part("README.md, constants");
        int told = 0;
        for (String line : lines) {
            Matcher m = CONSTANT.matcher(line);
            if (m.matches()) {
                due.is(m.group(1), Integer.parseInt(m.group(2)), answer(m.group(1)));
                told++;
            }
        }
        due.is("how many are told", told, WaterButts.class.getFields().length);
    }

    private static void callsAreAll(List<String> lines) {
        due.part("README.md, all calls");
        List<String> told = new ArrayList<>();
        for (String line : lines) {
            Matcher m = ROW.matcher(line);
            if (m.matches()) {
                told.add(m.group(1));
                due.is("parameters of " + m.group(1), m.group(2).isEmpty() ? 0 : m.group(2).split(",").length, parameters(m.group(1)));
            }
        }
        yes("each call once, in the order of the promises", told.equals(Arrays.asList(Calls.NAMES).subList(2, Calls.NAMES.length)));
    }

    private static int parameters(String name) {
        for (Method m : WaterButts.class.getDeclaredMethods()) {
            if (m.getName().equals(name)) {
                return m.getParameterCount();
            }
        }
        return -1;
    }

    private static void says(List<String> lines) {
        due.part("README.md");
        String all = String.join("\n", lines);
        for (String word : new String[] {"new WaterButts()", "512 calls", "bash .ci/run", "No call ever throws"}) {
            yes("says '" + word + "'", all.contains(word));
        }
    }

    private static void namesTests(List<String> lines, Path tests) throws IOException {
        due.part("README.md, tests");
        String all = String.join("\n", lines);
        try (Stream<Path> files = Files.list(tests)) {
            for (Path file : files.toList()) {
                String name = file.getFileName().toString().replace(".java", "");
                yes("names " + name, !name.endsWith("Test") || all.contains("`" + name));
            }
        }
        Matcher m = Pattern.compile("`(\\w+Test)\\b").matcher(all);
        while (m.find()) {
            yes("there is a " + m.group(1), Files.exists(tests.resolve(m.group(1) + ".java")));
        }
    }
}
