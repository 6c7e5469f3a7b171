import java.util.ArrayList;
import java.util.List;

/**
 * A run of calls that is told once and run anew, on a new object, for each look at what comes behind it: so
 * that a refused call can be held against the same run without it. No object is used for more than 512 calls.
 */
final class Script {
    private static final int MOST_CALLS = 512;
    private static final String[] PARTS = {"butts, beds, days, texts", "sheets and slots", "the tape", "the numbers that wait", "the image"};
    private static final int TAPE_PART = 2, WAIT_PART = 3;

    private final Due due;
    private final List<Calls.Call> calls = new ArrayList<>();
    /** What the run shows without one more call; null till it is asked for. */
    private List<List<Integer>> shown;

    Script(Due due) {
        this.due = due;
    }

    /** One object, which counts its calls. */
    private static final class Run {
        final WaterButts x = new WaterButts();
        int count;

        int answers(Calls.Call c) {
            return answers(c.promise(), c.args());
        }

        int answers(int promise, int... args) {
            count++;
            if (count > MOST_CALLS) {
                throw new IllegalStateException("a test uses more than " + MOST_CALLS + " calls");
            }
            return Calls.call(x, promise, args);
        }

        int answers(String line) {
            return answers(Calls.of(line).get(0));
        }
    }

    // ---- what the run is

    /** More calls, of which none may be refused. */
    Script with(String lines) {
        for (Calls.Call c : Calls.of(lines)) {
            int got = again().answers(c);
            due.is(c + " ahead of what is looked at is refused", isRefusal(c, got) ? 1 : 0, 0);
            add(c);
        }
        return this;
    }

    Script with(int times, String lines) {
        for (int i = 0; i < times; i++) {
            with(lines);
        }
        return this;
    }

    /** A call that changes something: its answer, and the run goes on from there. */
    Script does(int want, String line) {
        Calls.Call c = Calls.of(line).get(0);
        due.is(line, again().answers(c), want);
        add(c);
        return this;
    }

    /** The tape, empty till now, has the bytes of a text. */
    Script tape(String text) {
        byte[] bytes = text.getBytes(java.nio.charset.StandardCharsets.ISO_8859_1);
        for (int i = 0; i < bytes.length; i += 12) {
            add(new Calls.Call(25, new int[] {Due.four(bytes, i), Due.four(bytes, i + 4), Due.four(bytes, i + 8), 0, 0}));
        }
        return with("trim(" + bytes.length + ")");
    }

    Script text(String text) {
        return tape(text).with("text()");
    }

    private void add(Calls.Call c) {
        calls.add(c);
        shown = null;
    }

    private static boolean isRefusal(Calls.Call c, int got) {
        return got <= WaterButts.BAD && got >= WaterButts.SIZE || c.promise() == Calls.TEXT && got < 0;
    }

    // ---- what is looked at

    /** The answer of the last call of each line; the run stays as it was. */
    Script gives(int want, String... lines) {
        for (String line : lines) {
            Run run = again();
            int got = 0;
            for (Calls.Call c : Calls.of(line)) {
                got = run.answers(c);
            }
            due.is(line, got, want);
        }
        return this;
    }

    /** The answer of each call, and that nothing is otherwise behind it (but what text and check use up). */
    Script tells(int want, String... lines) {
        for (String line : lines) {
            Calls.Call c = Calls.of(line).get(0);
            due.is(line, again().answers(c), want);
            List<List<Integer>> before = shown();
            List<List<Integer>> after = shownBehind(c);
            for (int part = 0; part < PARTS.length; part++) {
                List<Integer> same = before.get(part);
                if (c.promise() == Calls.TEXT && part == TAPE_PART || c.promise() == Calls.CHECK && part == WAIT_PART) {
                    same = usedUp(part);
                }
                due.is(line + " changed " + PARTS[part], after.get(part).equals(same) ? 0 : 1, 0);
            }
        }
        return this;
    }

    private Run again() {
        Run run = new Run();
        for (Calls.Call c : calls) {
            run.answers(c);
        }
        return run;
    }

    private List<List<Integer>> shown() {
        if (shown == null) {
            shown = shownBehind(null);
        }
        return shown;
    }

    private List<List<Integer>> shownBehind(Calls.Call more) {
        List<List<Integer>> all = new ArrayList<>();
        for (int part = 0; part < PARTS.length; part++) {
            Run run = again();
            if (more != null) {
                run.answers(more);
            }
            all.add(shows(run, part));
        }
        return all;
    }

    /** What a part shows when the tape is empty, or no numbers wait. */
    private List<Integer> usedUp(int part) {
        Script without = new Script(due);
        for (Calls.Call c : calls) {
            if (part == TAPE_PART || c.promise() != 39) {
                without.add(c);
            }
        }
        if (part == TAPE_PART) {
            without.with("trim(0)");
        }
        return shows(without.again(), part);
    }

    private static List<Integer> shows(Run run, int part) {
        switch (part) {
            case 0: return garden(run);
            case 1: return rows(run);
            case TAPE_PART: return tapeOf(run);
            case WAIT_PART: return waiting(run);
            default: return imageOf(run);
        }
    }

    private static List<Integer> garden(Run run) {
        List<Integer> all = new ArrayList<>();
        for (int what = 0; what < 11; what++) {
            if (what != 8 && what != 9) {
                all.add(run.answers(43, what));
            }
        }
        for (int what = 0; what < 7; what++) {
            all.add(run.answers(15, what));
            for (int i = 0; i < 8; i++) {
                all.add(run.answers(3, i, what));
                all.add(what < 3 ? run.answers(9, i, what) : 0);
            }
        }
        for (int text = 0; text < 14; text++) {
            all.add(run.answers(28, text, 0));
            all.add(run.answers(28, text, 1));
        }
        for (int i = 0; i < 10; i++) {
            all.add(run.answers(4, 0, i));
            all.add(run.answers(29, i % 3));
        }
        for (int what = 0; what < 4; what++) {
            all.add(run.answers(17, 25, what));
        }
        all.add(run.answers(24));
        return all;
    }

    private static List<Integer> rows(Run run) {
        List<Integer> all = new ArrayList<>();
        for (int slot = 0; slot < 5; slot++) {
            for (int kind = 0; kind < 6; kind++) {
                all.add(run.answers(36, slot, kind));
            }
            rowIn(run, slot, all);
            all.add(run.answers(38, slot, 1000000007));
        }
        for (int sheet = 0; sheet < 4; sheet++) {
            all.add(run.answers(35, 0, 2, sheet));
            if (all.get(all.size() - 1) >= 0) {
                rowIn(run, 0, all);
            }
            // Of shorts KIND, of floats 1.
            all.add(run.answers(31, sheet, 0, WaterButts.NONE));
        }
        return all;
    }

    private static void rowIn(Run run, int slot, List<Integer> all) {
        for (int place = 0; place < 25; place++) {
            int v = run.answers(37, slot, place);
            all.add(v);
            if (v == WaterButts.NOTHING || v == WaterButts.INDEX) {
                return;
            }
        }
    }

    private static List<Integer> tapeOf(Run run) {
        List<Integer> all = new ArrayList<>();
        all.add(run.answers("count(9)"));
        all.add(run.answers("text()"));
        all.add(run.answers("count(7)"));
        all.add(run.answers("fine()"));
        all.add(run.answers("catches(0, 9)"));
        all.add(run.answers("told(0, 5)"));
        return all;
    }

    private static List<Integer> waiting(Run run) {
        List<Integer> all = new ArrayList<>();
        int many = run.answers("count(8)");
        all.add(many);
        // Without an image check has nothing to hold them against.
        if (run.answers("back()") == WaterButts.NO) {
            run.answers("keep()");
        }
        all.add(run.answers(Calls.CHECK, Math.max(1, many / 2)));
        all.add(run.answers("count(8)"));
        return all;
    }

    private static List<Integer> imageOf(Run run) {
        List<Integer> all = new ArrayList<>();
        all.add(run.answers("back()"));
        all.addAll(garden(run));
        return all;
    }
}
