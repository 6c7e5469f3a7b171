import java.io.IOException;
import java.lang.management.ManagementFactory;
import java.lang.reflect.Constructor;
import java.lang.reflect.Field;
import java.lang.reflect.Method;
import java.lang.reflect.Modifier;
import java.nio.file.Files;
import java.nio.file.Path;
import java.util.Arrays;
import java.util.List;
import java.util.Map;
import java.util.Set;
import java.util.TreeMap;
import java.util.TreeSet;
import java.util.regex.Matcher;
import java.util.regex.Pattern;

/** The public face, and those rules of LANGUAGE.md that can be looked at from outside. */
public final class RulesTest {
    /** As it stands in the document. */
    private static final String FACE = """
        public final class WaterButts {
            public static final int BAD = -1000000001, NO = -1000000002, FULL = -1000000003, NONE = -1000000005, NOTHING = -1000000011, KIND = -1000000012, INDEX = -1000000013, SIZE = -1000000014;
            public WaterButts();
            public int butt(int kind, int room, int tap);
            public int told(int butt, int what);
            public int catches(int butt, int r);
            public int as(int butt, int kind);
            public int turns(int butt, int kind);
            public int set(int butt, int what, int v);
            public int bed(int wants);
            public int bedTold(int bed, int what);
            public int wants(int bed, int v);
            public int deal(int n);
            public int seed(int v);
            public int rule(int what, int v);
            public int days(int n);
            public int gallons(int what);
            public int pourDown(int r);
            public int behind(int n, int what);
            public int dryBy();
            public int larger(int butt, int w, int n);
            public int leave(int n, int what);
            public int spares(int butt, int n);
            public int taps(int n);
            public int gauged(int sheet, int butt, int what);
            public int fine();
            public int feed(int a, int b, int c);
            public int trim(int n);
            public int text();
            public int textTold(int text, int what);
            public int why(int key);
            public int sheet(int sheet, int sort, int n);
            public int mark(int sheet, int place, int v);
            public int pour(int sheet);
            public int reads(int sheet);
            public int copy(int from, int place, int to, int at, int many);
            public int lay(int slot, int thing, int k);
            public int ask(int slot, int kind);
            public int item(int slot, int place);
            public int rest(int slot, int n);
            public int tell(int v);
            public int check(int n);
            public int keep();
            public int back();
            public int count(int what);
        }
        """;

    private static final Due due = new Due();

    public static void main(String[] args) throws IOException {
        face();
        nested();
        constants();
        document();
        headings();
        source();
        room();
        due.end();
    }

    private static void yes(String what, boolean holds) {
        due.is(what, holds ? 1 : 0, 1);
    }

    private static void face() {
        due.part("rule 1, the face");
        int mods = WaterButts.class.getModifiers();
        yes("public and final", Modifier.isPublic(mods) && Modifier.isFinal(mods));
        Set<String> names = new TreeSet<>();
        Set<String> hidden = new TreeSet<>();
        Set<String> found = new TreeSet<>();
        for (Method m : WaterButts.class.getDeclaredMethods()) {
            if (Modifier.isPublic(m.getModifiers())) {
                found.add(m.getName() + m.getParameterCount());
                names.add(m.getName());
                yes(m + " is of ints", m.getReturnType() == int.class
                    && Arrays.stream(m.getParameterTypes()).allMatch(t -> t == int.class) && !Modifier.isStatic(m.getModifiers()));
            } else {
                hidden.add(m.getName());
                yes(m + " is private", Modifier.isPrivate(m.getModifiers()));
            }
        }
        yes("the public methods are those of the document", found.equals(documentMethods()));
        for (Class<?> c : WaterButts.class.getDeclaredClasses()) {
            for (Method m : c.getDeclaredMethods()) {
                hidden.add(m.getName());
            }
        }
        hidden.retainAll(names);
        yes("no other method bears a public name: " + hidden, hidden.isEmpty());
        Constructor<?>[] made = WaterButts.class.getDeclaredConstructors();
        yes("one public constructor", made.length == 1 && Modifier.isPublic(made[0].getModifiers()) && made[0].getParameterCount() == 0);
        for (Field f : WaterButts.class.getDeclaredFields()) {
            boolean constant = Modifier.isPublic(f.getModifiers());
            yes(f + " is private or a constant of the document", constant
                ? Set.of("BAD", "NO", "FULL", "NONE", "NOTHING", "KIND", "INDEX", "SIZE").contains(f.getName())
                : Modifier.isPrivate(f.getModifiers()));
            yes(f + ", static, is final", !Modifier.isStatic(f.getModifiers()) || Modifier.isFinal(f.getModifiers()));
            yes(f + ", public, is a static int", !constant || Modifier.isStatic(f.getModifiers()) && f.getType() == int.class);
        }
    }

    /** Names with how many parameters they have. */
    private static Set<String> documentMethods() {
        Set<String> all = new TreeSet<>();
        Matcher m = Pattern.compile("public int (\\w+)\\(([^)]*)\\)").matcher(FACE);
        while (m.find()) {
            all.add(m.group(1) + (m.group(2).isEmpty() ? 0 : m.group(2).split(",").length));
        }
        return all;
    }

    private static void nested() {
        due.part("rules 2 and 11, classes inside");
        Class<?>[] inside = WaterButts.class.getDeclaredClasses();
        yes("at most twelve", inside.length <= 12);
        for (Class<?> c : inside) {
            yes(c + " is static and not public", Modifier.isStatic(c.getModifiers()) && !Modifier.isPublic(c.getModifiers()));
            long fields = Arrays.stream(c.getDeclaredFields()).filter(f -> !Modifier.isStatic(f.getModifiers())).count();
            yes(c + " has some twenty fields at most", fields <= 20);
            for (Method m : c.getDeclaredMethods()) {
                yes(m + " has seven parameters at most", m.getParameterCount() <= 7);
            }
        }
    }

    private static void constants() {
        due.part("the constants");
        Map<String, Integer> want = new TreeMap<>(Map.of("BAD", -1000000001, "NO", -1000000002, "FULL", -1000000003, "NONE", -1000000005,
            "NOTHING", -1000000011, "KIND", -1000000012, "INDEX", -1000000013, "SIZE", -1000000014));
        int[] got = {WaterButts.BAD, WaterButts.FULL, WaterButts.INDEX, WaterButts.KIND, WaterButts.NO, WaterButts.NONE, WaterButts.NOTHING,
            WaterButts.SIZE};
        int i = 0;
        for (Map.Entry<String, Integer> e : want.entrySet()) {
            due.is(e.getKey(), got[i], e.getValue());
            i++;
        }
    }

    private static String code() throws IOException {
        return Files.readString(Path.of(System.getProperty("source", "src/main/java/WaterButts.java")));
    }

    /** Each line of the document's face stands in the source as it stands there, but for what each method does. */
    private static void document() throws IOException {
        due.part("the document's face");
        List<String> lines = List.of(code().split("\n"));
        for (String line : FACE.split("\n")) {
            yes(line.trim(), lines.contains(line) || lines.contains(line.replace(";", " {")));
        }
    }

    /** Ahead of these calls the interface says these words. */
    private static void headings() throws IOException {
        due.part("terms, what the interface says ahead of calls");
        String want = "---- butts, beds: butt told catches as turns set bed bedTold wants deal seed ---- days: rule days gallons pourDown "
            + "---- what will be: behind dryBy larger leave spares taps gauged fine ---- texts: feed trim text textTold why "
            + "---- sheets, slots: sheet mark pour reads copy lay ask item rest ---- rows, images: tell check keep back count ";
        StringBuilder got = new StringBuilder();
        Matcher m = Pattern.compile("\n    // (---- .*)|\n    public int (\\w+)\\(").matcher(code());
        while (m.find()) {
            got.append(m.group(1) != null ? m.group(1) + ":" : m.group(2)).append(' ');
        }
        yes("says them: " + got, got.toString().startsWith(want));
    }

    private static void source() throws IOException {
        due.part("rules 4 to 6 and 11, the source");
        String code = code().replaceAll("(?s)/\\*.*?\\*/", " ").replaceAll("//[^\n]*", " ")
            .replaceAll("\"(\\\\.|[^\"\\\\])*\"", "\"\"").replaceAll("'(\\\\.|[^'\\\\])'", "' '");
        String[] never = {"throw", "throws", "try", "catch", "finally", "synchronized", "assert", "import", "package", "Object", "System",
            "equals", "hashCode", "toString", "double", "float", "volatile", "native"};
        for (String word : never) {
            String without = code.replace("System.arraycopy", "");
            yes("no " + word, !without.matches("(?s).*\\b" + word + "\\b.*"));
        }
        for (String sign : new String[] {"->", "::", "Exact(", "static {"}) {
            yes("no " + sign, !code.contains(sign));
        }
        int open = 0;
        int opened = 0;
        String[] lines = code.split("\n");
        for (int i = 0; i < lines.length; i++) {
            boolean method = lines[i].matches("\\s+[\\w\\[\\] ]+\\([^;]*\\) \\{") && !lines[i].matches("\\s+(if|for|while|switch|else).*");
            if (method) {
                open = i;
                opened = lines[i].indexOf(lines[i].trim());
            }
            if (lines[i].trim().equals("}") && lines[i].indexOf('}') == opened) {
                yes("the method at line " + (open + 1) + " is short", i - open < 60);
            }
        }
    }

    /** All calls of a run live in one room: an object's rows are made with it, its calls make none. */
    private static void room() {
        due.part("rule 12, what calls make");
        com.sun.management.ThreadMXBean counter = (com.sun.management.ThreadMXBean) ManagementFactory.getThreadMXBean();
        WaterButts x = new WaterButts();
        everyCall(x);
        everyCall(x);
        counter.getCurrentThreadAllocatedBytes();
        long before = counter.getCurrentThreadAllocatedBytes();
        everyCall(x);
        long between = counter.getCurrentThreadAllocatedBytes();
        yes("calls make no objects", between - before < 256);
        WaterButts y = new WaterButts();
        long after = counter.getCurrentThreadAllocatedBytes();
        yes("an object is small", after - between < 20000);
        due.is("count(0)", y.count(0), 0);
    }

    private static void everyCall(WaterButts x) {
        x.deal(3);
        x.bed(9);
        x.sheet(0, 1, 4);
        x.mark(0, 0, 3);
        x.lay(0, 1, 0);
        x.lay(1, 2, 0);
        x.lay(2, 3, 0);
        x.feed(0x63617463, 0x68207220, 0x2b203720);
        x.text();
        x.feed(0x63617463, 0x68207220, 0x2b203720);
        x.feed(0x63617463, 0x68207220, 0x2b203720);
        x.text();
        x.keep();
        x.days(9);
        x.behind(9, 0);
        x.dryBy();
        x.larger(0, 1, 9);
        x.leave(9, 0);
        x.spares(0, 9);
        x.taps(9);
        x.gauged(0, 0, 0);
        x.fine();
        x.pour(0);
        x.reads(0);
        x.copy(0, 0, 0, 1, 2);
        x.ask(0, 0);
        x.item(1, 0);
        x.rest(2, 3);
        x.tell(4);
        x.check(4);
        x.catches(0, 4);
        x.told(0, 5);
        x.pourDown(3);
        x.back();
    }
}
