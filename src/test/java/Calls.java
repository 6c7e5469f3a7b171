import java.util.Arrays;
import java.util.List;

/** Calls by the numbers of their promises, or by lines such as "set(0, 2, MOST)". */
final class Calls {
    static final String[] NAMES = {"", "", "butt", "told", "catches", "as", "turns", "set", "bed", "bedTold", "wants", "deal", "seed",
        "rule", "days", "gallons", "pourDown", "behind", "dryBy", "larger", "leave", "spares", "taps", "gauged", "fine", "feed", "trim",
        "text", "textTold", "why", "sheet", "mark", "pour", "reads", "copy", "lay", "ask", "item", "rest", "tell", "check", "keep", "back",
        "count"};
    static final int TEXT = 27, CHECK = 40;

    /** One call: its promise and its arguments, filled up to five. */
    record Call(int promise, int[] args) {
        @Override public String toString() {
            return NAMES[promise] + Arrays.toString(args);
        }
    }

    private Calls() {
    }

    /** The calls of a line, one behind the other, with ';' between them. */
    static List<Call> of(String lines) {
        return Arrays.stream(lines.split(";")).map(String::trim).map(Calls::one).toList();
    }

    private static Call one(String line) {
        int open = line.indexOf('(');
        int promise = Arrays.asList(NAMES).indexOf(line.substring(0, open));
        if (promise < 2 || !line.endsWith(")")) {
            throw new IllegalStateException("no call: " + line);
        }
        String inside = line.substring(open + 1, line.length() - 1).trim();
        int[] args = inside.isEmpty() ? new int[0] : Arrays.stream(inside.split(",")).map(String::trim).mapToInt(Calls::number).toArray();
        return new Call(promise, Arrays.copyOf(args, 5));
    }

    private static int number(String word) {
        switch (word) {
            case "LEAST": return Integer.MIN_VALUE;
            case "MOST": return Integer.MAX_VALUE;
            case "NONE": return WaterButts.NONE;
            case "BAD": return WaterButts.BAD;
            default: return Integer.parseInt(word);
        }
    }

    static int call(WaterButts x, int promise, int... args) {
        int[] v = Arrays.copyOf(args, 5);
        switch (promise) {
            case 2: return x.butt(v[0], v[1], v[2]);
            case 3: return x.told(v[0], v[1]);
            case 4: return x.catches(v[0], v[1]);
            case 5: return x.as(v[0], v[1]);
            case 6: return x.turns(v[0], v[1]);
            case 7: return x.set(v[0], v[1], v[2]);
            case 8: return x.bed(v[0]);
            case 9: return x.bedTold(v[0], v[1]);
            case 10: return x.wants(v[0], v[1]);
            case 11: return x.deal(v[0]);
            case 12: return x.seed(v[0]);
            case 13: return x.rule(v[0], v[1]);
            case 14: return x.days(v[0]);
            case 15: return x.gallons(v[0]);
            case 16: return x.pourDown(v[0]);
            case 17: return x.behind(v[0], v[1]);
            case 18: return x.dryBy();
            case 19: return x.larger(v[0], v[1], v[2]);
            case 20: return x.leave(v[0], v[1]);
            case 21: return x.spares(v[0], v[1]);
            case 22: return x.taps(v[0]);
            case 23: return x.gauged(v[0], v[1], v[2]);
            case 24: return x.fine();
            case 25: return x.feed(v[0], v[1], v[2]);
            case 26: return x.trim(v[0]);
            case TEXT: return x.text();
            case 28: return x.textTold(v[0], v[1]);
            case 29: return x.why(v[0]);
            case 30: return x.sheet(v[0], v[1], v[2]);
            case 31: return x.mark(v[0], v[1], v[2]);
            case 32: return x.pour(v[0]);
            case 33: return x.reads(v[0]);
            case 34: return x.copy(v[0], v[1], v[2], v[3], v[4]);
            case 35: return x.lay(v[0], v[1], v[2]);
            case 36: return x.ask(v[0], v[1]);
            case 37: return x.item(v[0], v[1]);
            case 38: return x.rest(v[0], v[1]);
            case 39: return x.tell(v[0]);
            case CHECK: return x.check(v[0]);
            case 41: return x.keep();
            case 42: return x.back();
            case 43: return x.count(v[0]);
            default: throw new IllegalStateException("no promise: " + promise);
        }
    }
}
