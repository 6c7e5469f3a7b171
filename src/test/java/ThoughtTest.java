import java.util.ArrayList;
import java.util.List;
import java.util.Random;

/**
 * Terms, part 3, and promise 40: what is only thought is what comes to pass. For gardens by lot, each call that
 * thinks ahead is held against another object of the same garden on which the days really pass; no model is asked.
 */
public final class ThoughtTest {
    private static final int MOST_CALLS = 512;
    private static final String[] TEXTS = {"catch r*7+3", "catch (h<50)*r*20", "catch s/9-h/20", "dry h/9+2", "dry (d/3*3=d)*s/8", "dry 3-d", "fine b*2+l"};

    private static final Due due = new Due();

    public static void main(String[] args) {
        int gardens = args.length > 0 ? Integer.parseInt(args[0]) : 200;
        for (int i = 1; i <= gardens; i++) {
            due.part("garden " + i);
            oneGarden(new Random(i * 104729L));
        }
        due.end();
    }

    private static void oneGarden(Random lot) {
        List<String> garden = garden(lot);
        int butts = Run.of(garden).does("count(0)");
        int beds = Run.of(garden).does("count(1)");
        behind(garden, lot.nextInt(101));
        dryBy(garden);
        leave(garden, beds, 1 + lot.nextInt(60));
        taps(garden, butts, 1 + lot.nextInt(60));
        if (butts > 0) {
            int butt = lot.nextInt(butts);
            larger(garden, butt, 1 + lot.nextInt(40), lot);
            spares(garden, butt, 1 + lot.nextInt(60));
            gauged(garden, butt, lot);
        }
        check(garden, 1 + lot.nextInt(30));
        fine(garden);
    }

    /** One object, used for no more calls than it is for. */
    private static final class Run {
        private final WaterButts x = new WaterButts();
        private int made;

        static Run of(List<String> lines) {
            Run run = new Run();
            for (String line : lines) {
                run.does(line);
            }
            return run;
        }

        int does(String line) {
            if (line.startsWith("text ")) {
                made += 10;
                return Due.text(x, line.substring(5));
            }
            int got = 0;
            for (Calls.Call c : Calls.of(line)) {
                made++;
                got = Calls.call(x, c.promise(), c.args());
            }
            if (made > MOST_CALLS) {
                throw new IllegalStateException("more than " + MOST_CALLS + " calls");
            }
            return got;
        }

        void passes(int days) {
            for (int left = days; left > 0; left -= 100) {
                does("days(" + Math.min(100, left) + ")");
            }
        }
    }

    private static Run behindDays(List<String> garden, String change, int days) {
        Run run = Run.of(garden);
        if (!change.isEmpty()) {
            due.is(change + " is refused", run.does(change) <= WaterButts.BAD ? 1 : 0, 0);
        }
        run.passes(days);
        return run;
    }

    // ---- gardens by lot

    private static List<String> garden(Random lot) {
        List<String> lines = new ArrayList<>();
        lines.add("seed(" + lot.nextInt() + ")");
        int butts = lot.nextInt(9);
        for (int i = 0; i < butts; i++) {
            int room = 1 + lot.nextInt(lot.nextBoolean() ? 60 : 400);
            lines.add("butt(" + lot.nextInt(6) + ", " + room + ", " + (lot.nextInt(4) == 0 ? lot.nextInt(room + 5) : lot.nextInt(4)) + ")");
            lines.add("set(" + i + ", 2, " + lot.nextInt(room + 1) + ")");
        }
        for (int i = lot.nextInt(9); i > 0; i--) {
            lines.add("bed(" + lot.nextInt(lot.nextBoolean() ? 12 : 60) + ")");
        }
        lines.add("rule(0, " + lot.nextInt(50) + ")");
        lines.add("rule(1, " + lot.nextInt(101) + ")");
        lines.add("rule(2, " + (lot.nextInt(5) == 0 ? 1 : 0) + ")");
        lines.add("rule(3, " + lot.nextInt(2) + ")");
        for (int i = lot.nextInt(4); i > 0; i--) {
            lines.add("text " + TEXTS[lot.nextInt(TEXTS.length)]);
        }
        if (lot.nextBoolean()) {
            lines.add("days(" + (1 + lot.nextInt(20)) + ")");
        }
        return lines;
    }

    // ---- what is thought, and what comes to pass

    private static void behind(List<String> garden, int n) {
        int[] gallons = {4, 6, 3, 1};
        Run later = behindDays(garden, "", n);
        Run now = Run.of(garden);
        for (int what = 0; what < 4; what++) {
            due.is("behind(" + n + ", " + what + ")", now.does("behind(" + n + ", " + what + ")"), later.does("gallons(" + gallons[what] + ")"));
        }
    }

    private static void dryBy(List<String> garden) {
        int want = WaterButts.NONE;
        for (int k = 0; k <= 300 && want == WaterButts.NONE; k++) {
            Run later = behindDays(garden, "", k);
            boolean dry = true;
            for (int i = later.does("count(0)") - 1; i >= 0; i--) {
                dry &= later.does("told(" + i + ", 4)") == 0;
            }
            want = dry ? k : want;
        }
        due.is("dryBy()", Run.of(garden).does("dryBy()"), want);
    }

    private static void larger(List<String> garden, int butt, int n, Random lot) {
        int now = behindDays(garden, "", n).does("gallons(6)");
        int best = behindDays(garden, "set(" + butt + ", 1, 999)", n).does("gallons(6)");
        int w = Math.max(0, Math.min(9999, Math.min(now, best) - 1 + lot.nextInt(Math.abs(now - best) + 2)));
        int want = WaterButts.NONE;
        int room = Run.of(garden).does("told(" + butt + ", 1)");
        for (; room <= 999 && want == WaterButts.NONE; room += 10) {
            want = behindDays(garden, "set(" + butt + ", 1, " + room + ")", n).does("gallons(6)") <= w ? room : want;
        }
        String call = "larger(" + butt + ", " + w + ", " + n + ")";
        due.is(call, Run.of(garden).does(call), want);
    }

    private static void leave(List<String> garden, int beds, int n) {
        int best = WaterButts.NONE;
        int least = WaterButts.NONE;
        for (int i = 0; i < beds; i++) {
            Run later = behindDays(garden, "wants(" + i + ", 0)", n);
            int lacked = 0;
            for (int other = 0; other < beds; other++) {
                lacked += other == i ? 0 : later.does("bedTold(" + other + ", 2)");
            }
            if (best == WaterButts.NONE || lacked < least) {
                best = i;
                least = lacked;
            }
        }
        due.is("leave(" + n + ", 0)", Run.of(garden).does("leave(" + n + ", 0)"), best);
        due.is("leave(" + n + ", 1)", Run.of(garden).does("leave(" + n + ", 1)"), least);
    }

    private static void spares(List<String> garden, int butt, int n) {
        int without = behindDays(garden, "set(" + butt + ", 3, 999)", n).does("gallons(6)");
        int with = behindDays(garden, "", n).does("gallons(6)");
        String call = "spares(" + butt + ", " + n + ")";
        due.is(call, Run.of(garden).does(call), without - with);
    }

    private static void taps(List<String> garden, int butts, int n) {
        int best = WaterButts.NONE;
        int least = 0;
        for (int i = 0; i < butts; i++) {
            int lacked = behindDays(garden, "set(" + i + ", 3, 0)", n).does("gallons(6)");
            if (best == WaterButts.NONE || lacked < least) {
                best = i;
                least = lacked;
            }
        }
        due.is("taps(" + n + ")", Run.of(garden).does("taps(" + n + ")"), best);
    }

    /** The gauges are those of a KIND by lot, some of them spoilt, some left out. */
    private static void gauged(List<String> garden, int butt, Random lot) {
        int places = lot.nextInt(25);
        int[][] holds = new int[6][];
        for (int kind = 0; kind < 6; kind++) {
            holds[kind] = holdsOf(garden, butt, kind, places);
        }
        int[] gauges = holds[lot.nextInt(6)].clone();
        Run now = Run.of(garden);
        now.does("sheet(2, 1, " + places + ")");
        for (int k = 0; k < places; k++) {
            gauges[k] = lot.nextInt(4) == 0 ? WaterButts.NONE : gauges[k] + (lot.nextInt(3) == 0 ? lot.nextInt(21) - 10 : 0);
            now.does("mark(2, " + k + ", " + gauges[k] + ")");
        }
        int best = 0;
        int least = Integer.MAX_VALUE;
        for (int kind = 0; kind < 6; kind++) {
            int sum = 0;
            for (int k = 0; k < places; k++) {
                sum += gauges[k] == WaterButts.NONE ? 0 : Math.abs(gauges[k] - holds[kind][k]);
            }
            best = sum < least ? kind : best;
            least = Math.min(sum, least);
        }
        due.is("gauged(2, " + butt + ", 0)", now.does("gauged(2, " + butt + ", 0)"), best);
        due.is("gauged(2, " + butt + ", 1)", now.does("gauged(2, " + butt + ", 1)"), least);
    }

    private static int[] holdsOf(List<String> garden, int butt, int kind, int places) {
        Run later = Run.of(garden);
        later.does("turns(" + butt + ", " + kind + ")");
        int[] row = new int[places];
        for (int k = 0; k < places; k++) {
            later.passes(k > 0 ? 1 : 0);
            row[k] = later.does("told(" + butt + ", 2)");
        }
        return row;
    }

    /** THE DAYS TOLD are those of THE IMAGE, whatever is otherwise by now: its z, its YESTERDAY, its TEXTS, all. */
    private static void check(List<String> garden, int n) {
        Run later = Run.of(garden);
        Run now = Run.of(garden);
        now.does("keep()");
        now.does("seed(77); rule(0, 100); rule(1, 100); rule(2, 1); rule(3, 1); days(5); set(0, 2, 0); deal(8); bed(50)");
        now.does("text catch 500");
        now.does("text dry 1");
        int last = 0;
        for (int i = 0; i < n; i++) {
            later.passes(1);
            now.does("tell(" + later.does("gallons(4)") + ")");
            last = later.does("gallons(6)");
            if (i < n - 1) {
                now.does("tell(" + last + ")");
            }
        }
        now.does("back(); seed(5); rule(2, 1)");
        due.is("tell, the last", now.does("tell(" + last + ")"), 2 * n);
        due.is("check(" + n + ")", now.does("check(" + n + ")"), 0);
    }

    /** What is told of now is not what will be: thinking ahead changes neither. */
    private static void fine(List<String> garden) {
        Run now = Run.of(garden);
        int told = now.does("fine()");
        now.does("behind(100, 2); dryBy(); leave(60, 0); taps(60); larger(0, 0, 40); spares(0, 60)");
        due.is("fine() behind what is only thought", now.does("fine()"), told);
        Run later = behindDays(garden, "", 7);
        now.passes(7);
        for (int what = 0; what < 7; what++) {
            due.is("gallons(" + what + ") behind what is only thought", now.does("gallons(" + what + ")"), later.does("gallons(" + what + ")"));
        }
        due.is("count(10) behind what is only thought", now.does("count(10)"), later.does("count(10)"));
    }
}
