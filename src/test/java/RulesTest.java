import java.io.IOException;
import java.lang.management.ManagementFactory;
import java.lang.reflect.Constructor;
import java.lang.reflect.Field;
import java.lang.reflect.Method;
import java.lang.reflect.Modifier;
import java.nio.file.Files;
import java.nio.file.Path;
import java.util.Arrays;
import java.util.Map;
import java.util.Set;
import java.util.TreeMap;
import java.util.TreeSet;

/** The public face, and those rules of LANGUAGE.md that can be looked at from outside. */
public final class RulesTest {
    private static final String FACE = "butt3 told2 catches2 as2 turns2 set3 bed1 bedTold2 wants2 deal1 seed1 rule2 days1 gallons1 "
        + "pourDown1 behind2 dryBy0 larger3 leave2 spares2 taps1 gauged3 fine0 feed3 trim1 text0 textTold2 why1 sheet3 mark3 pour1 "
        + "reads1 copy5 lay3 ask2 item2 rest2 tell1 check1 keep0 back0 count1";

    private static final Due due = new Due();

    public static void main(String[] args) throws IOException {
        face();
        nested();
        constants();
        source();
        room();
        due.end();
    }

    private static void yes(String what, boolean holds) {
        due.is(what, holds ? 1 : 0, 1);
    }

    private static void face() {
        due.part("rule 1, the face");
        int mods = WaterButts.class.getModifiers();
        yes("public and final", Modifier.isPublic(mods) && Modifier.isFinal(mods));
        Set<String> names = new TreeSet<>();
        Set<String> hidden = new TreeSet<>();
        Set<String> found = new TreeSet<>();
        for (Method m : WaterButts.class.getDeclaredMethods()) {
            if (Modifier.isPublic(m.getModifiers())) {
                found.add(m.getName() + m.getParameterCount());
                names.add(m.getName());
                yes(m + " is of ints", m.getReturnType() == int.class
                    && Arrays.stream(m.getParameterTypes()).allMatch(t -> t == int.class) && !Modifier.isStatic(m.getModifiers()));
            } else {
                hidden.add(m.getName());
                yes(m + " is private", Modifier.isPrivate(m.getModifiers()));
            }
        }
        due.is("the public methods are those of the document", found.equals(new TreeSet<>(Arrays.asList(FACE.split(" ")))) ? 1 : 0, 1);
        for (Class<?> c : WaterButts.class.getDeclaredClasses()) {
            for (Method m : c.getDeclaredMethods()) {
                hidden.add(m.getName());
            }
        }
        hidden.retainAll(names);
        yes("no other method bears a public name: " + hidden, hidden.isEmpty());
        Constructor<?>[] made = WaterButts.class.getDeclaredConstructors();
        yes("one public constructor", made.length == 1 && Modifier.isPublic(made[0].getModifiers()) && made[0].getParameterCount() == 0);
        for (Field f : WaterButts.class.getDeclaredFields()) {
            boolean constant = Modifier.isPublic(f.getModifiers());
            yes(f + " is private or a constant of the document", constant
                ? Set.of("BAD", "NO", "FULL", "NONE", "NOTHING", "KIND", "INDEX", "SIZE").contains(f.getName())
                : Modifier.isPrivate(f.getModifiers()));
            yes(f + ", static, is final", !Modifier.isStatic(f.getModifiers()) || Modifier.isFinal(f.getModifiers()));
        }
    }

    private static void nested() {
        due.part("rules 2 and 11, classes inside");
        Class<?>[] inside = WaterButts.class.getDeclaredClasses();
        yes("at most twelve", inside.length <= 12);
        for (Class<?> c : inside) {
            yes(c + " is static and not public", Modifier.isStatic(c.getModifiers()) && !Modifier.isPublic(c.getModifiers()));
            long fields = Arrays.stream(c.getDeclaredFields()).filter(f -> !Modifier.isStatic(f.getModifiers())).count();
            yes(c + " has some twenty fields at most", fields <= 20);
            for (Method m : c.getDeclaredMethods()) {
                yes(m + " has seven parameters at most", m.getParameterCount() <= 7);
            }
        }
    }

    private static void constants() {
        due.part("the constants");
        Map<String, Integer> want = new TreeMap<>(Map.of("BAD", -1000000001, "NO", -1000000002, "FULL", -1000000003, "NONE", -1000000005,
            "NOTHING", -1000000011, "KIND", -1000000012, "INDEX", -1000000013, "SIZE", -1000000014));
        int[] got = {WaterButts.BAD, WaterButts.FULL, WaterButts.INDEX, WaterButts.KIND, WaterButts.NO, WaterButts.NONE, WaterButts.NOTHING,
            WaterButts.SIZE};
        int i = 0;
        for (Map.Entry<String, Integer> e : want.entrySet()) {
            due.is(e.getKey(), got[i], e.getValue());
            i++;
        }
    }

    private static void source() throws IOException {
        due.part("rules 4 to 6 and 11, the source");
        Path file = Path.of(System.getProperty("source", "src/main/java/WaterButts.java"));
        String code = Files.readString(file).replaceAll("(?s)/\\*.*?\\*/", " ").replaceAll("//[^\n]*", " ")
            .replaceAll("\"(\\\\.|[^\"\\\\])*\"", "\"\"").replaceAll("'(\\\\.|[^'\\\\])'", "' '");
        String[] never = {"throw", "throws", "try", "catch", "finally", "synchronized", "assert", "import", "package", "Object", "System",
            "equals", "hashCode", "toString", "double", "float", "volatile", "native"};
        for (String word : never) {
            String without = code.replace("System.arraycopy", "");
            yes("no " + word, !without.matches("(?s).*\\b" + word + "\\b.*"));
        }
        for (String sign : new String[] {"->", "::", "Exact(", "static {"}) {
            yes("no " + sign, !code.contains(sign));
        }
        int open = 0;
        int opened = 0;
        String[] lines = code.split("\n");
        for (int i = 0; i < lines.length; i++) {
            boolean method = lines[i].matches("\\s+[\\w\\[\\] ]+\\([^;]*\\) \\{") && !lines[i].matches("\\s+(if|for|while|switch|else).*");
            if (method) {
                open = i;
                opened = lines[i].indexOf(lines[i].trim());
            }
            if (lines[i].trim().equals("}") && lines[i].indexOf('}') == opened) {
                yes("the method at line " + (open + 1) + " is short", i - open < 60);
            }
        }
    }

    /** All calls of a run live in one room: an object's rows are made with it, its calls make none. */
    private static void room() {
        due.part("rule 12, what calls make");
        com.sun.management.ThreadMXBean counter = (com.sun.management.ThreadMXBean) ManagementFactory.getThreadMXBean();
        WaterButts x = new WaterButts();
        everyCall(x);
        everyCall(x);
        counter.getCurrentThreadAllocatedBytes();
        long before = counter.getCurrentThreadAllocatedBytes();
        everyCall(x);
        long between = counter.getCurrentThreadAllocatedBytes();
        yes("calls make no objects", between - before < 256);
        WaterButts y = new WaterButts();
        long after = counter.getCurrentThreadAllocatedBytes();
        yes("an object is small", after - between < 20000);
        due.is("count(0)", y.count(0), 0);
    }

    private static void everyCall(WaterButts x) {
        x.deal(3);
        x.bed(9);
        x.sheet(0, 1, 4);
        x.mark(0, 0, 3);
        x.lay(0, 1, 0);
        x.lay(1, 2, 0);
        x.lay(2, 3, 0);
        x.feed(0x63617463, 0x68207220, 0x2b203720);
        x.text();
        x.feed(0x63617463, 0x68207220, 0x2b203720);
        x.feed(0x63617463, 0x68207220, 0x2b203720);
        x.text();
        x.keep();
        x.days(9);
        x.behind(9, 0);
        x.dryBy();
        x.larger(0, 1, 9);
        x.leave(9, 0);
        x.spares(0, 9);
        x.taps(9);
        x.gauged(0, 0, 0);
        x.fine();
        x.pour(0);
        x.reads(0);
        x.copy(0, 0, 0, 1, 2);
        x.ask(0, 0);
        x.item(1, 0);
        x.rest(2, 3);
        x.tell(4);
        x.check(4);
        x.catches(0, 4);
        x.told(0, 5);
        x.pourDown(3);
        x.back();
    }
}
