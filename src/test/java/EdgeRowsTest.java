/** Promises 30 to 43: SHEETS, SLOTS, numbers that wait, images: each bound, each refusal, which comes first, what it changes. */
public final class EdgeRowsTest {
    private static final int BAD = WaterButts.BAD, NO = WaterButts.NO, FULL = WaterButts.FULL, NONE = WaterButts.NONE,
        NOTHING = WaterButts.NOTHING, KIND = WaterButts.KIND, INDEX = WaterButts.INDEX, SIZE = WaterButts.SIZE;
    private static final int LEAST = Integer.MIN_VALUE, MOST = Integer.MAX_VALUE;

    private static final Due due = new Due();

    public static void main(String[] args) {
        sheet();
        mark();
        shorts();
        floats();
        pour();
        reads();
        copy();
        copyWithin();
        lay();
        layForGood();
        ask();
        item();
        rest();
        tell();
        check();
        checkRows();
        checkLastDays();
        keep();
        back();
        backAgain();
        count();
        due.end();
    }

    private static Script fresh() {
        return new Script(due);
    }

    private static Script some(String part) {
        due.part(part);
        return Gardens.some(due);
    }

    private static Script full(String part) {
        due.part(part + ", full");
        return Gardens.full(due);
    }

    private static void sheet() {
        Script s = some("promise 30");
        s.tells(BAD, "sheet(-1, 0, 3)", "sheet(4, 0, 3)", "sheet(LEAST, 0, 3)", "sheet(MOST, 0, 3)", "sheet(-1, -1, 0)", "sheet(4, -1, 0)");
        s.tells(BAD, "sheet(0, -2, 3)", "sheet(0, 2, 3)", "sheet(0, LEAST, 3)", "sheet(0, MOST, 3)");
        s.tells(BAD, "sheet(0, 0, 25)", "sheet(0, 1, 25)", "sheet(0, 0, MOST)", "sheet(3, 1, MOST)");
        s.tells(SIZE, "sheet(0, 0, -1)", "sheet(0, 1, -1)", "sheet(3, 0, -1)", "sheet(0, 1, LEAST)", "sheet(0, 0, NONE)");
        s.tells(BAD, "sheet(4, 0, -1)", "sheet(-1, 1, -1)", "sheet(0, 2, -1)", "sheet(0, -2, -1)", "sheet(4, 2, LEAST)");
        s.gives(0, "sheet(0, 0, 0)", "sheet(0, 1, 0)", "sheet(3, 0, 0)").gives(1, "sheet(0, 0, 1)").gives(24, "sheet(0, 0, 24)", "sheet(3, 1, 24)");
        s.gives(0, "sheet(0, -1, 0)", "sheet(0, -1, 24)", "sheet(0, -1, 25)", "sheet(0, -1, -1)", "sheet(0, -1, LEAST)", "sheet(0, -1, MOST)");
        s.tells(0, "sheet(3, -1, 0)", "sheet(3, -1, MOST)", "sheet(3, -1, -1)", "sheet(2, 0, 0)");
        s.gives(NOTHING, "sheet(0, -1, 3); mark(0, 0, 0)", "sheet(0, -1, 3); lay(4, 2, 0)").gives(0, "sheet(0, 0, 3); lay(4, 2, 0); item(4, 0)");
        s.gives(0, "sheet(0, 0, 3); lay(4, 2, 0); item(4, 2)", "sheet(1, 1, 2); lay(4, 2, 1); item(4, 0)", "sheet(0, -1, 0); sheet(0, 0, 3); lay(4, 2, 0); item(4, 0)");
        s.gives(INDEX, "sheet(0, 0, 2); mark(0, 2, 1)", "sheet(0, 0, 24); mark(0, 24, 1)").gives(1, "sheet(0, 0, 24); mark(0, 23, 1)");
        s = full("promise 30");
        s.gives(0, "sheet(0, 0, 24); lay(0, 2, 0); item(0, 23)", "sheet(3, 1, 24); lay(0, 2, 3); item(0, 23)", "sheet(3, -1, 24)");
        s.gives(0, "sheet(0, 0, 1); sheet(0, 0, 24); lay(0, 2, 0); item(0, 23)").tells(SIZE, "sheet(3, 0, -1)").tells(BAD, "sheet(3, 0, 25)", "sheet(4, 0, 24)");
    }

    private static void mark() {
        Script s = some("promise 31");
        s.tells(BAD, "mark(-1, 0, 1)", "mark(4, 0, 1)", "mark(LEAST, 0, 1)", "mark(MOST, 0, 1)").tells(NOTHING, "mark(3, 0, 1)");
        s.tells(INDEX, "mark(0, -1, 1)", "mark(0, 3, 1)", "mark(0, LEAST, 1)", "mark(0, MOST, 1)", "mark(1, -1, 1)", "mark(1, 2, 1)", "mark(2, 0, 1)", "mark(2, -1, 1)");
        s.tells(KIND, "mark(0, 0, NONE)", "mark(0, 2, NONE)").tells(BAD, "mark(1, 0, 100000)", "mark(1, 1, -100000)", "mark(1, 0, LEAST)", "mark(1, 0, MOST)", "mark(1, 1, BAD)");
        due.part("promise 31, which stands first");
        s.tells(BAD, "mark(4, -1, NONE)", "mark(-1, 99, MOST)").tells(NOTHING, "mark(3, -1, NONE)", "mark(3, 99, MOST)");
        s.tells(INDEX, "mark(0, 3, NONE)", "mark(0, -1, NONE)", "mark(1, 2, 100000)", "mark(1, -1, LEAST)", "mark(2, 0, NONE)");
        due.part("promise 31");
        s.gives(1, "mark(0, 0, 1)", "mark(0, 2, 1)", "mark(0, 0, MOST)", "mark(0, 0, LEAST)", "mark(0, 0, BAD)", "mark(1, 0, 99999)", "mark(1, 1, -99999)", "mark(1, 1, NONE)");
        s.tells(1, "mark(0, 0, 9)", "mark(0, 2, -1)", "mark(1, 0, NONE)", "mark(1, 1, -5)");
        s = full("promise 31");
        s.tells(1, "mark(0, 23, 999)", "mark(3, 23, NONE)").tells(INDEX, "mark(0, 24, 999)", "mark(3, 24, NONE)").tells(KIND, "mark(1, 23, NONE)");
        s.tells(BAD, "mark(3, 23, 100000)");
    }

    /** Of shorts the lowest 16 bits count. */
    private static void shorts() {
        due.part("promise 31, shorts");
        int[][] wraps = {{0, 0}, {32767, 32767}, {32768, -32768}, {32769, -32767}, {65535, -1}, {65536, 0}, {65537, 1}, {-1, -1}, {-32768, -32768}, {-32769, 32767},
            {-65536, 0}, {-65537, -1}, {MOST, -1}, {LEAST, 0}, {LEAST + 1, 1}, {0x12345678, 0x5678}, {0x1234fffe, -2}, {NONE - 1, (short) (NONE - 1)}, {NONE + 1, (short) (NONE + 1)}};
        Script s = fresh().with("sheet(0, 0, 2)");
        for (int[] v : wraps) {
            s.gives(v[1], "mark(0, 1, " + v[0] + "); lay(0, 2, 0); item(0, 1)").gives(0, "mark(0, 1, " + v[0] + "); lay(0, 2, 0); item(0, 0)");
        }
        s = s.with("butt(0, 999, 0); bed(50); mark(0, 0, 65541)").gives(0, "set(0, 2, 4); reads(0)").gives(1, "set(0, 2, 5); reads(0)").gives(5, "pour(0); bedTold(0, 0)");
        s.gives(0, "mark(0, 0, 32768); pour(0); bedTold(0, 0)").gives(99, "mark(0, 0, -32769); pour(0); bedTold(0, 0)");
        s.gives(32767, "rule(0, 0); mark(0, 0, 32767); gauged(0, 0, 1)").gives(32768, "rule(0, 0); mark(0, 0, 32768); gauged(0, 0, 1)");
    }

    private static void floats() {
        due.part("promise 31, floats");
        Script s = fresh().with("sheet(0, 1, 2)");
        int[] kept = {0, 1, -1, 32768, 65536, -65537, 99998, 99999, -99998, -99999};
        for (int v : kept) {
            s.gives(v, "mark(0, 1, " + v + "); lay(0, 2, 0); item(0, 1)", "mark(0, 1, NONE); mark(0, 1, " + v + "); lay(0, 2, 0); item(0, 1)");
        }
        s.gives(KIND, "mark(0, 1, NONE); lay(0, 2, 0); item(0, 1)", "mark(0, 1, 7); mark(0, 1, NONE); lay(0, 2, 0); item(0, 1)");
        s.tells(BAD, "mark(0, 1, 100000)", "mark(0, 1, -100000)", "mark(0, 1, -1000000004)", "mark(0, 1, -1000000006)", "mark(0, 1, MOST)", "mark(0, 1, LEAST)");
    }

    private static void pour() {
        Script s = some("promise 32");
        s.tells(BAD, "pour(-1)", "pour(4)", "pour(LEAST)", "pour(MOST)").tells(NOTHING, "pour(3)").tells(0, "pour(2)");
        // (9, 0, -1) for 7, 0, 99: the second is as it was.
        s.gives(2, "pour(0)").gives(9, "pour(0); bedTold(0, 0)").gives(0, "pour(0); bedTold(2, 0)", "pour(0); pour(0)");
        // NO NUMBER and -5 for 7, 0, 99: none is otherwise.
        s.tells(0, "pour(1)").gives(1, "wants(1, 1); pour(1)").gives(7, "pour(1); bedTold(0, 0)").gives(99, "pour(1); bedTold(2, 0)");
        due.part("promise 32, held within 0 .. 99");
        s = fresh().with("bed(50); sheet(0, 1, 1)");
        int[][] held = {{-99999, 0}, {-1, 0}, {0, 0}, {1, 1}, {98, 98}, {99, 99}, {100, 99}, {99999, 99}, {NONE, 50}};
        for (int[] v : held) {
            String marked = "mark(0, 0, " + v[0] + "); pour(0)";
            s.gives(v[1] == 50 ? 0 : 1, marked).gives(v[1], marked + "; bedTold(0, 0)").gives(0, marked + "; pour(0)");
        }
        s.gives(0, "mark(0, 0, 50); pour(0)", "wants(0, 99); mark(0, 0, 100); pour(0)", "wants(0, 0); mark(0, 0, -1); pour(0)", "sheet(0, 1, 0); pour(0)");
        due.part("promise 32, no beds");
        fresh().with("sheet(0, 0, 24); butt(0, 9, 0)").tells(0, "pour(0)").tells(NOTHING, "pour(1)");
        s = full("promise 32");
        s.tells(0, "pour(0)", "pour(3)").gives(8, "pour(2)").gives(0, "pour(2); bedTold(7, 0)").gives(1, "mark(0, 7, 98); pour(0)").gives(0, "mark(0, 8, 98); pour(0)");
        s.tells(BAD, "pour(4)").gives(7, "mark(2, 7, NONE); pour(2)").gives(1, "sheet(0, 0, 1); pour(0)").gives(99, "sheet(0, 0, 1); pour(0); bedTold(1, 0)");
    }

    private static void reads() {
        Script s = some("promise 33");
        s.tells(BAD, "reads(-1)", "reads(4)", "reads(LEAST)", "reads(MOST)").tells(NOTHING, "reads(3)").tells(NONE, "reads(2)");
        // (9, 0, -1) for 9, 0, 979; (NO NUMBER, -5) for 9, 0.
        s.tells(2, "reads(0)").tells(1, "reads(1)").gives(0, "set(0, 2, 8); reads(0)").gives(1, "set(1, 2, 1); reads(0)").gives(NONE, "mark(0, 2, 979); reads(0)");
        s.gives(NONE, "mark(1, 1, 0); reads(1)", "mark(1, 1, NONE); reads(1)").gives(2, "mark(0, 2, 978); reads(0)", "mark(0, 2, 980); reads(0)");
        due.part("promise 33, no butts");
        s = fresh().with("sheet(0, 1, 2); bed(1)").tells(0, "reads(0)").gives(1, "mark(0, 0, NONE); reads(0)").gives(NONE, "mark(0, 0, NONE); mark(0, 1, NONE); reads(0)");
        due.part("promise 33, places that are no butt");
        s = fresh().with("sheet(0, 1, 2); butt(0, 9, 0)").tells(1, "reads(0)").gives(NONE, "mark(0, 1, NONE); reads(0)", "butt(0, 9, 0); reads(0)");
        s = full("promise 33").tells(8, "reads(0)", "reads(1)").tells(0, "reads(2)").tells(NONE, "reads(3)").gives(7, "set(7, 2, 998); reads(0)");
        s.gives(23, "mark(3, 23, 0); reads(3)").gives(NONE, "sheet(0, 0, 8); copy(1, 0, 0, 0, 8); reads(0)").tells(BAD, "reads(4)");
    }

    private static void copy() {
        Script s = some("promise 34");
        s.tells(BAD, "copy(-1, 0, 0, 0, 1)", "copy(4, 0, 0, 0, 1)", "copy(0, 0, -1, 0, 1)", "copy(0, 0, 4, 0, 1)", "copy(LEAST, 0, MOST, 0, 1)");
        s.tells(NOTHING, "copy(3, 0, 0, 0, 1)", "copy(0, 0, 3, 0, 1)", "copy(3, 0, 3, 0, 0)", "copy(1, 0, 3, 0, 0)", "copy(3, 0, 1, 0, 0)");
        s.tells(KIND, "copy(0, 0, 1, 0, 1)", "copy(1, 0, 0, 0, 1)", "copy(1, 0, 2, 0, 0)", "copy(2, 0, 1, 0, 0)");
        s.tells(INDEX, "copy(0, -1, 0, 0, 1)", "copy(0, 3, 0, 0, 1)", "copy(0, 0, 0, -1, 1)", "copy(0, 0, 0, 3, 1)", "copy(0, 0, 0, 0, 4)", "copy(0, 1, 0, 0, 3)", "copy(0, 0, 0, 1, 3)");
        s.tells(INDEX, "copy(0, 0, 0, 0, -1)", "copy(0, 3, 0, 3, -1)", "copy(0, 0, 0, 0, LEAST)", "copy(0, 0, 0, 0, MOST)", "copy(0, MOST, 0, 0, MOST)", "copy(0, 1, 0, MOST, MOST)");
        s.tells(INDEX, "copy(0, LEAST, 0, 0, LEAST)", "copy(0, 4, 0, 0, 0)", "copy(0, 0, 0, 4, 0)", "copy(0, -1, 0, 0, 0)", "copy(0, 0, 0, -1, 0)", "copy(0, 0, 2, 0, 1)", "copy(2, 0, 0, 0, 1)");
        due.part("promise 34, which stands first");
        s.tells(BAD, "copy(4, -1, 3, -1, -1)", "copy(3, -1, 4, -1, -1)", "copy(4, 0, 1, 0, 0)", "copy(1, 99, -1, 0, 1)");
        s.tells(NOTHING, "copy(3, -1, 0, 0, 1)", "copy(0, 0, 3, 99, 1)", "copy(1, -1, 3, -1, -1)", "copy(3, 0, 2, 0, 9)");
        s.tells(KIND, "copy(0, -1, 1, 0, 1)", "copy(1, 0, 0, 99, 1)", "copy(2, 0, 1, 0, 1)", "copy(1, 0, 0, 0, -1)", "copy(0, 0, 1, 0, MOST)");
        due.part("promise 34");
        s.tells(0, "copy(0, 0, 0, 0, 0)", "copy(0, 3, 0, 3, 0)", "copy(0, 3, 2, 0, 0)", "copy(2, 0, 0, 3, 0)", "copy(2, 0, 2, 0, 0)");
        s.tells(3, "copy(0, 0, 0, 0, 3)").tells(1, "copy(0, 2, 0, 2, 1)").gives(1, "copy(0, 0, 0, 2, 1)").gives(9, "copy(0, 0, 0, 2, 1); lay(4, 2, 0); item(4, 2)");
        s.gives(KIND, "copy(1, 0, 1, 1, 1); lay(4, 2, 1); item(4, 1)").gives(-5, "copy(1, 1, 1, 0, 1); lay(4, 2, 1); item(4, 0)");
        s = full("promise 34");
        s.tells(24, "copy(0, 0, 1, 0, 24)", "copy(2, 0, 2, 0, 24)").gives(24, "copy(2, 0, 3, 0, 24)", "copy(3, 0, 2, 0, 24)").tells(INDEX, "copy(0, 0, 1, 0, 25)", "copy(2, 1, 3, 0, 24)", "copy(2, 0, 3, 1, 24)");
        s.gives(-99999, "copy(2, 0, 3, 0, 24); lay(0, 2, 3); item(0, 23)").gives(KIND, "copy(2, 0, 3, 0, 23); lay(0, 2, 3); item(0, 23)").tells(KIND, "copy(1, 0, 2, 0, 24)");
    }

    /** To the same SHEET: the places as they were, whichever way they go. */
    private static void copyWithin() {
        due.part("promise 34, within a sheet");
        Script s = fresh().with("sheet(0, 0, 5); mark(0, 0, 1); mark(0, 1, 2); mark(0, 2, 3); mark(0, 3, 4); mark(0, 4, 5)");
        rowIs(s, "copy(0, 0, 0, 1, 4)", 1, 1, 2, 3, 4);
        rowIs(s, "copy(0, 1, 0, 0, 4)", 2, 3, 4, 5, 5);
        rowIs(s, "copy(0, 0, 0, 2, 3)", 1, 2, 1, 2, 3);
        rowIs(s, "copy(0, 2, 0, 0, 3)", 3, 4, 5, 4, 5);
        rowIs(s, "copy(0, 0, 0, 0, 5)", 1, 2, 3, 4, 5);
        rowIs(s, "copy(0, 5, 0, 0, 0)", 1, 2, 3, 4, 5);
        rowIs(s, "copy(0, 4, 0, 0, 1)", 5, 2, 3, 4, 5);
    }

    private static void rowIs(Script s, String call, int... row) {
        for (int i = 0; i < row.length; i++) {
            s.gives(row[i], call + "; lay(0, 2, 0); item(0, " + i + ")");
        }
    }

    private static void lay() {
        Script s = some("promise 35");
        s.tells(BAD, "lay(-1, 0, 0)", "lay(5, 0, 0)", "lay(LEAST, 3, 0)", "lay(MOST, 1, 0)", "lay(0, -1, 0)", "lay(0, 4, 0)", "lay(0, LEAST, 0)", "lay(0, MOST, 0)");
        s.tells(BAD, "lay(0, 1, -1)", "lay(0, 1, 3)", "lay(4, 1, LEAST)", "lay(4, 1, MOST)", "lay(0, 2, -1)", "lay(0, 2, 4)", "lay(4, 2, LEAST)", "lay(4, 2, MOST)");
        s.tells(NOTHING, "lay(0, 2, 3)", "lay(4, 2, 3)").tells(BAD, "lay(5, 2, 3)", "lay(-1, 2, 3)", "lay(0, 4, 3)");
        s.gives(1, "lay(0, 0, 0)", "lay(0, 1, 2)", "lay(0, 2, 2)", "lay(0, 3, MOST)", "lay(4, 1, 2); lay(4, 0, 0)");
        s.gives(2, "lay(1, 0, 0)", "lay(2, 3, LEAST)", "lay(4, 2, 2); lay(4, 0, 0)").gives(3, "lay(3, 0, 0)", "lay(3, 1, 0)", "lay(3, 3, 0)", "lay(4, 3, NONE); lay(4, 0, 0)");
        s.gives(0, "lay(4, 0, 0)", "lay(4, 1, 0)", "lay(4, 2, 0)", "lay(4, 3, 0)", "lay(0, 0, LEAST); lay(0, 0, MOST)");
        s.tells(0, "lay(4, 0, 0)", "lay(4, 0, LEAST)", "lay(4, 0, MOST)", "lay(4, 0, -1)").tells(3, "lay(3, 3, -17)").tells(2, "lay(1, 2, 0)").tells(1, "lay(0, 1, 0)");
        s = full("promise 35");
        s.tells(1, "lay(0, 1, 7)").gives(2, "lay(1, 1, 7)").tells(BAD, "lay(0, 1, 8)", "lay(5, 1, 7)", "lay(4, 2, 4)").gives(3, "lay(4, 2, 3)", "lay(4, 0, 9)");
        due.part("promise 35, no butts");
        fresh().tells(BAD, "lay(0, 1, 0)", "lay(0, 1, -1)").tells(NOTHING, "lay(0, 2, 0)").gives(0, "lay(0, 3, 0)");
    }

    /** A SLOT has a BUTT as it is then, a row of its own. */
    private static void layForGood() {
        Script s = some("promise 35, for good");
        s.gives(100, "set(0, 1, 200); turns(0, 5); ask(0, 0)", "back(); ask(0, 0)", "days(9); ask(0, 0)").gives(KIND, "turns(0, 5); ask(0, 5)");
        s.gives(979, "lay(4, 1, 2); pourDown(9); ask(4, 5)", "lay(4, 1, 2); set(2, 2, 0); ask(4, 0)").gives(999, "pourDown(9); lay(4, 1, 2); ask(4, 5)");
        s.gives(9, "mark(0, 0, 8); item(1, 0)", "sheet(0, -1, 0); item(1, 0)", "sheet(0, 1, 1); item(1, 0)", "copy(0, 2, 0, 0, 1); item(1, 0)");
        s.gives(INDEX, "sheet(0, 0, 24); item(1, 3)").gives(8, "mark(0, 0, 8); lay(1, 2, 0); item(1, 0)");
        due.part("promise 35, a butt that is gone");
        fresh().with("keep(); butt(4, 100, 0); lay(0, 1, 0); back()").tells(892, "ask(0, 4)").tells(BAD, "told(0, 0)", "lay(0, 1, 0)");
        due.part("promise 35, slots apart");
        s = fresh().with("butt(5, 9, 0); lay(0, 1, 0); set(0, 2, 4); lay(1, 1, 0)").tells(0, "ask(0, 5)").tells(4, "ask(1, 5)");
        s.gives(4, "lay(0, 0, 0); ask(1, 5)").gives(NOTHING, "lay(0, 0, 0); ask(0, 5)");
    }

    private static void ask() {
        Script s = some("promise 36");
        s.tells(BAD, "ask(-1, 0)", "ask(5, 0)", "ask(LEAST, 0)", "ask(MOST, 0)", "ask(0, -1)", "ask(0, 6)", "ask(0, LEAST)", "ask(0, MOST)");
        s.tells(BAD, "ask(4, 6)", "ask(4, -1)", "ask(1, 6)", "ask(5, 6)").tells(NOTHING, "ask(4, 0)", "ask(4, 5)").tells(KIND, "ask(1, 0)", "ask(2, 5)", "ask(3, 0)");
        s.tells(100, "ask(0, 0)").tells(KIND, "ask(0, 1)", "ask(0, 2)", "ask(0, 3)", "ask(0, 4)", "ask(0, 5)");
        boolean[][] of = {{true, false, false, false, false, false}, {true, true, false, false, false, false}, {true, false, true, false, false, false},
            {true, true, false, true, false, false}, {true, false, true, false, true, false}, {true, false, false, false, false, true}};
        int[] worth = {100, 109, 899, 218, 892, 9};
        for (int kind = 0; kind < 6; kind++) {
            for (int as = 0; as < 6; as++) {
                s.gives(of[kind][as] ? worth[kind] : KIND, "turns(0, " + kind + "); lay(0, 1, 0); ask(0, " + as + ")");
            }
        }
        full("promise 36").tells(1008, "ask(0, 0)", "ask(0, 1)").tells(KIND, "ask(0, 3)", "ask(1, 0)", "ask(4, 0)").tells(BAD, "ask(5, 0)", "ask(4, 6)");
    }

    private static void item() {
        Script s = some("promise 37");
        s.tells(BAD, "item(-1, 0)", "item(5, 0)", "item(LEAST, 0)", "item(MOST, 0)", "item(5, -1)").tells(NOTHING, "item(4, 0)", "item(4, -1)", "item(4, 24)");
        s.tells(KIND, "item(0, 0)", "item(0, -1)", "item(3, 0)", "item(3, 99)").tells(INDEX, "item(1, -1)", "item(1, 3)", "item(1, LEAST)", "item(1, MOST)", "item(2, 2)", "item(2, -1)");
        s.tells(KIND, "item(2, 0)").tells(9, "item(1, 0)").tells(0, "item(1, 1)").tells(-1, "item(1, 2)").tells(-5, "item(2, 1)");
        s.gives(INDEX, "lay(4, 2, 2); item(4, 0)", "lay(4, 2, 2); item(4, -1)");
        s = full("promise 37").tells(999, "item(1, 0)", "item(1, 23)").tells(-99999, "item(2, 23)").tells(KIND, "item(3, 23)", "item(4, 0)", "item(0, 0)");
        s.tells(INDEX, "item(1, 24)", "item(2, 24)", "item(3, 24)", "item(3, -1)").tells(BAD, "item(5, 0)");
    }

    private static void rest() {
        Script s = some("promise 38");
        s.tells(BAD, "rest(-1, 1)", "rest(5, 1)", "rest(LEAST, 1)", "rest(MOST, 1)", "rest(5, 0)").tells(NOTHING, "rest(4, 1)", "rest(4, 0)");
        s.tells(KIND, "rest(0, 1)", "rest(0, 0)", "rest(1, 1)", "rest(1, 0)", "rest(2, 0)").tells(NO, "rest(3, 0)");
        s.tells(0, "rest(3, 1)", "rest(3, -1)", "rest(3, 17)", "rest(3, -17)").tells(-1, "rest(3, 2)", "rest(3, -2)").tells(-17, "rest(3, 18)", "rest(3, MOST)", "rest(3, LEAST)");
        s.gives(0, "lay(4, 3, LEAST); rest(4, -1)", "lay(4, 3, LEAST); rest(4, LEAST)", "lay(4, 3, 0); rest(4, 9)").gives(-1, "lay(4, 3, LEAST); rest(4, MOST)");
        s.gives(MOST, "lay(4, 3, MOST); rest(4, LEAST)").gives(0, "lay(4, 3, MOST); rest(4, MOST)").gives(-5, "lay(4, 3, NONE); rest(4, 100)").gives(1, "lay(4, 3, 17); rest(4, -2)");
        s.gives(NO, "lay(4, 3, 0); rest(4, 0)");
        full("promise 38").tells(7, "rest(4, 10)").tells(NO, "rest(4, 0)").tells(KIND, "rest(0, 1)", "rest(3, 0)").tells(BAD, "rest(5, 1)");
    }

    private static void tell() {
        Script s = some("promise 39");
        s.gives(3, "tell(0)", "tell(LEAST)", "tell(MOST)", "tell(NONE)", "tell(0); count(8)").gives(4, "tell(0); tell(0)");
        s.with(57, "tell(0)").tells(59, "count(8)").gives(60, "tell(7)", "tell(7); count(8)").gives(FULL, "tell(7); tell(7)");
        s = full("promise 39").tells(FULL, "tell(0)", "tell(6700)", "tell(LEAST)", "tell(MOST)").tells(60, "count(8)").gives(1, "check(0); tell(5)", "check(30); tell(5)");
    }

    private static void check() {
        Script s = some("promise 40");
        s.tells(BAD, "check(0)", "check(31)", "check(-1)", "check(LEAST)", "check(MOST)").tells(0, "check(1)").tells(3, "check(2)", "check(30)");
        s.gives(0, "check(0); count(8)", "check(31); count(8)", "check(1); count(8)", "check(30); count(8)").gives(1, "check(1); check(1)", "check(0); check(1)", "check(2); check(1)");
        s.gives(3, "tell(0); check(1)").gives(0, "keep(); check(0); tell(977); tell(8); check(1)", "set(0, 2, 99); wants(0, 50); seed(3); check(1)", "back(); check(1)");
        due.part("promise 40, no image");
        s = fresh().with("tell(0); tell(0)").tells(NO, "check(1)", "check(30)").tells(BAD, "check(0)", "check(31)");
        s.gives(0, "check(1); count(8)", "check(31); count(8)", "keep(); check(1)").gives(1, "check(1); keep(); check(1)");
        due.part("promise 40, none wait");
        fresh().with("keep()").tells(1, "check(1)", "check(30)").tells(BAD, "check(0)", "check(31)").gives(0, "tell(0); tell(0); check(1)");
        s = full("promise 40");
        s.tells(0, "check(30)").tells(59, "check(29)").tells(3, "check(1)").tells(BAD, "check(31)", "check(0)").gives(0, "check(31); count(8)");
    }

    /** 1 and how many stand right ahead of the first that is not, or is missing, or one too many. */
    private static void checkRows() {
        due.part("promise 40, rows");
        // A LIDDED one of 25; 10 are wanted: 15 0, 5 0, 0 5, 0 15.
        Script s = Gardens.dry(due).with("butt(1, 100, 0); set(0, 2, 25); bed(10); keep()");
        s.gives(1, "check(1)", "tell(14); check(1)", "tell(14); tell(0); check(1)", "tell(-15); check(2)", "tell(25); tell(0); check(1)");
        s.gives(2, "tell(15); check(1)", "tell(15); tell(1); check(1)", "tell(15); tell(-1); tell(5); tell(0); check(2)");
        s.gives(0, "tell(15); tell(0); check(1)", "tell(15); tell(0); tell(5); tell(0); check(2)", "tell(15); tell(0); tell(5); tell(0); tell(0); tell(5); tell(0); tell(15); check(4)");
        s.gives(3, "tell(15); tell(0); check(2)", "tell(15); tell(0); tell(5); check(1)", "tell(15); tell(0); tell(5); tell(0); check(1)", "tell(15); tell(0); tell(6); tell(0); check(2)");
        s.gives(4, "tell(15); tell(0); tell(5); check(2)", "tell(15); tell(0); tell(5); tell(7); check(2)", "tell(15); tell(0); tell(5); check(30)");
        s.gives(8, "tell(15); tell(0); tell(5); tell(0); tell(0); tell(5); tell(0); check(4)", "tell(15); tell(0); tell(5); tell(0); tell(0); tell(5); tell(0); tell(14); check(4)");
        s.gives(9, "tell(15); tell(0); tell(5); tell(0); tell(0); tell(5); tell(0); tell(15); check(5)");
        due.part("promise 40, sixty numbers");
        s = Gardens.dry(due).with("bed(1); keep()");
        for (int i = 1; i <= 29; i++) {
            s.with("tell(0); tell(" + i + ")");
        }
        s.with("tell(0)").tells(60, "check(30)").tells(59, "check(29)").gives(0, "tell(30); check(30)").gives(60, "tell(29); check(30)", "tell(LEAST); check(30)");
    }

    private static void checkLastDays() {
        due.part("promise 40, the last but one");
        Script s = Gardens.onDay(due, 9998).with("bed(2); keep()");
        s.gives(0, "tell(0); tell(2); check(1)", "tell(0); tell(2); check(2)", "tell(0); tell(2); check(30)").gives(3, "tell(0); tell(2); tell(0); check(2)", "tell(0); tell(2); tell(0); tell(4); check(30)");
        s.gives(1, "check(1)").gives(2, "tell(0); check(30)").gives(0, "days(1); tell(0); tell(2); check(30)");
        due.part("promise 40, the last");
        s = Gardens.onDay(due, 9999).with("bed(2); keep()").tells(0, "check(1)", "check(30)").tells(BAD, "check(0)", "check(31)");
        s.gives(1, "tell(0); check(1)", "tell(0); tell(2); check(30)", "tell(LEAST); check(30)");
        s.gives(9999, "back(); count(2)").gives(0, "back(); days(5)").tells(4, "behind(2, 1)");
    }

    private static void keep() {
        Script s = some("promise 41");
        s.gives(3, "keep()", "keep(); back()").gives(4, "butt(0, 1, 0); keep()", "butt(0, 1, 0); keep(); butt(0, 1, 0); back()").gives(2, "keep(); back(); count(2)");
        s.gives(2, "keep(); count(8)").gives(9, "keep(); count(9)").gives(1, "keep(); check(1)").gives(9, "keep(); item(1, 0)");
        full("promise 41").gives(8, "keep()", "keep(); back()");
        due.part("promise 41, nothing");
        fresh().gives(0, "keep()", "keep(); butt(0, 1, 0); back()", "keep(); butt(0, 1, 0); bed(1); back(); count(1)");
    }

    private static void back() {
        Script s = some("promise 42");
        // THE IMAGE is of DAY 0: 60, 50 and 999 are held, METER is 0.
        s.gives(3, "back()", "butt(0, 1, 0); back()").gives(60, "back(); told(0, 2)").gives(0, "back(); count(2)", "back(); count(5)", "back(); gallons(2)", "back(); fine()");
        s.gives(1, "back(); count(10)").gives(2, "back(); count(8)", "back(); count(7)", "text(); back(); count(7)").gives(9, "back(); count(9)", "back(); item(1, 0)");
        s.gives(-17, "back(); rest(3, 99)").gives(100, "back(); ask(0, 0)").gives(0, "back(); reads(0)", "rule(3, 1); back(); count(6)", "rule(0, 9); back(); count(3)");
        s.gives(3, "bed(1); back(); count(1)").gives(7, "wants(0, 8); back(); bedTold(0, 0)").gives(100, "set(0, 1, 200); back(); told(0, 1)").gives(10, "set(0, 3, 1); back(); told(0, 3)");
        s.gives(0, "rule(1, 100); back(); count(4)", "pourDown(9); back(); gallons(0)", "pourDown(9); back(); gallons(1)", "back(); gallons(5)", "back(); gallons(6)");
        s.gives(0, "turns(0, 5); back(); told(0, 0)", "back(); bedTold(0, 1)", "back(); bedTold(2, 2)", "back(); gallons(3)");
        due.part("promise 42, no image");
        fresh().with("butt(0, 9, 0); days(1); tell(3); sheet(0, 0, 1); lay(0, 2, 0); feed(0, 0, 0)").tells(NO, "back()", "check(1)").gives(1, "keep(); back()");
        full("promise 42").tells(8, "back()").gives(8, "days(100); wants(3, 0); back()").gives(7992, "days(100); back(); gallons(4)").gives(60, "back(); count(8)").gives(96, "back(); count(9)");
    }

    private static void backAgain() {
        due.part("promise 42, again and again");
        Script s = Gardens.dry(due).with("butt(1, 100, 0); set(0, 2, 50); bed(10); keep()");
        s.gives(50, "days(2); back(); days(3); back(); told(0, 2)").gives(30, "days(2); back(); days(2); told(0, 2)", "days(2); keep(); days(2); back(); told(0, 2)");
        s.gives(10, "days(4); keep(); back(); back(); told(0, 2)").gives(0, "days(5); keep(); rule(2, 1); days(5); back(); count(5)");
        due.part("promise 42, where others stood");
        s = fresh().with("keep(); butt(5, 9, 9); set(0, 2, 9); bed(9); days(3)").text("fine 5").with("back()").tells(0, "count(0)", "count(1)", "count(2)", "count(7)", "fine()");
        s.gives(0, "rule(2, 1); bed(1); days(1); back(); bed(1); bedTold(0, 1)", "bed(1); days(1); back(); bed(1); bedTold(0, 2)");
        s.gives(0, "butt(0, 9, 0); told(0, 2)", "butt(0, 9, 0)", "bed(1); bedTold(0, 1)", "bed(1); bedTold(0, 2)").tells(NONE, "why(2)").tells(BAD, "textTold(0, 0)");
    }

    private static void count() {
        Script s = some("promise 43");
        s.tells(BAD, "count(-1)", "count(11)", "count(LEAST)", "count(MOST)");
        int[] there = {3, 3, 2, 0, 0, 1, 0, 2, 2, 9, Due.nextZ(Due.nextZ(1))};
        for (int what = 0; what < there.length; what++) {
            s.tells(there[what], "count(" + what + ")");
        }
        s.gives(1, "rule(3, 1); count(6)").gives(100, "rule(0, 100); count(3)", "rule(1, 100); count(4)").gives(LEAST, "seed(LEAST); count(10)");
        int[] most = {8, 8, 0, 30, 60, 0, 0, 14, 60, 96, 1};
        s = full("promise 43").tells(BAD, "count(-1)", "count(11)");
        for (int what = 0; what < most.length; what++) {
            s.tells(most[what], "count(" + what + ")");
        }
    }
}
