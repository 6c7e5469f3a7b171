/** Promises 1 to 24: each bound from both sides, each refusal, and that it changes nothing. */
public final class EdgeTest {
    private static final int BAD = WaterButts.BAD, NO = WaterButts.NO, FULL = WaterButts.FULL, NONE = WaterButts.NONE,
        NOTHING = WaterButts.NOTHING, KIND = WaterButts.KIND, INDEX = WaterButts.INDEX;
    private static final int LEAST = Integer.MIN_VALUE, MOST = Integer.MAX_VALUE;

    private static final Due due = new Due();

    public static void main(String[] args) {
        newObject();
        states();
        butt();
        told();
        loses();
        worth();
        catches();
        catchesOfKinds();
        as();
        turns();
        set();
        bed();
        wants();
        deal();
        dealByLot();
        seed();
        rule();
        days();
        lastDays();
        wetOrDry();
        rain();
        evening();
        gallons();
        pourDown();
        behind();
        dryBy();
        larger();
        leave();
        spares();
        taps();
        gauged();
        fine();
        due.end();
    }

    private static Script fresh() {
        return new Script(due);
    }

    private static Script some(String part) {
        due.part(part);
        return Gardens.some(due);
    }

    private static Script full(String part) {
        due.part(part + ", full");
        return Gardens.full(due);
    }

    private static void newObject() {
        due.part("promise 1");
        Script s = fresh();
        s.tells(0, "count(0)", "count(1)", "count(2)", "count(5)", "count(6)", "count(7)", "count(8)", "count(9)");
        s.tells(30, "count(3)").tells(60, "count(4)").tells(1, "count(10)");
        s.tells(0, "gallons(0)", "gallons(1)", "gallons(2)", "gallons(3)", "gallons(4)", "gallons(5)", "gallons(6)", "fine()");
        s.tells(BAD, "told(0, 0)", "catches(0, 0)", "as(0, 0)", "turns(0, 0)", "set(0, 3, 0)", "bedTold(0, 0)", "wants(0, 0)");
        s.tells(BAD, "larger(0, 0, 1)", "spares(0, 1)", "gauged(0, 0, 0)", "textTold(0, 0)", "lay(0, 1, 0)", "trim(1)");
        s.tells(NONE, "leave(1, 0)", "leave(60, 1)", "taps(1)", "taps(60)", "why(0)", "why(1)", "why(2)");
        s.tells(NOTHING, "mark(0, 0, 0)", "mark(3, 0, 0)", "pour(0)", "pour(3)", "reads(0)", "reads(3)", "copy(0, 0, 3, 0, 0)");
        s.tells(NOTHING, "lay(0, 2, 0)", "lay(4, 2, 3)", "ask(0, 0)", "ask(4, 5)", "item(0, 0)", "item(4, 0)", "rest(0, 1)", "rest(4, 0)");
        s.tells(0, "dryBy()", "behind(0, 0)", "behind(100, 0)", "behind(100, 1)", "behind(100, 2)", "behind(100, 3)");
        s.tells(NO, "check(1)", "check(30)", "back()").tells(-100, "text()").tells(0, "trim(0)", "lay(0, 0, 0)", "pourDown(9)");
        s.gives(0, "keep(); back()", "days(1); gallons(0)", "sheet(0, 1, 0)", "feed(0, 0, 0); trim(0); count(9)");
    }

    /** What stands in the states that the edges are looked at from, worked out by hand. */
    private static void states() {
        Script s = some("what there is");
        s.tells(9, "told(0, 2)").tells(0, "told(1, 2)").tells(979, "told(2, 2)").tells(988, "gallons(4)");
        s.tells(14, "bedTold(0, 1)").tells(190, "bedTold(2, 1)").tells(8, "bedTold(2, 2)", "gallons(6)");
        s.tells(23, "gallons(2)").tells(106, "gallons(3)").tells(0, "gallons(0)", "gallons(1)").tells(2, "count(2)");
        s.tells(220, "fine()").tells(0, "check(1)").tells(2, "count(8)").tells(9, "count(9)");
        s = full("what there is");
        s.tells(8, "count(0)", "count(1)").tells(14, "count(7)").tells(60, "count(8)").tells(96, "count(9)").tells(0, "check(30)");
    }

    private static void butt() {
        Script s = some("promise 2");
        s.tells(BAD, "butt(-1, 50, 5)", "butt(6, 50, 5)", "butt(LEAST, 50, 5)", "butt(MOST, 50, 5)");
        s.tells(BAD, "butt(0, 0, 5)", "butt(0, -1, 5)", "butt(0, 1000, 5)", "butt(0, LEAST, 5)", "butt(0, MOST, 5)");
        s.tells(BAD, "butt(0, 50, -1)", "butt(0, 50, 1000)", "butt(0, 50, LEAST)", "butt(0, 50, MOST)");
        s.gives(3, "butt(0, 50, 5)", "butt(5, 50, 5)", "butt(0, 1, 5)", "butt(0, 999, 5)", "butt(0, 50, 0)", "butt(0, 50, 999)", "butt(0, 1, 999)");
        s.gives(4, "butt(0, 50, 5); count(0)").gives(0, "butt(5, 50, 5); told(3, 2)").gives(5, "butt(5, 50, 5); told(3, 0)");
        s.gives(7, "butt(0, 1, 0); butt(0, 1, 0); butt(0, 1, 0); butt(0, 1, 0); butt(0, 1, 0)");
        s.gives(FULL, "butt(0, 1, 0); butt(0, 1, 0); butt(0, 1, 0); butt(0, 1, 0); butt(0, 1, 0); butt(0, 1, 0)");
        s = full("promise 2");
        s.tells(FULL, "butt(0, 1, 0)", "butt(5, 999, 999)");
        s.tells(BAD, "butt(-1, 1, 0)", "butt(6, 1, 0)", "butt(0, 0, 0)", "butt(0, 1000, 0)", "butt(0, 1, -1)", "butt(0, 1, 1000)");
    }

    private static void told() {
        Script s = some("promise 3");
        s.tells(BAD, "told(-1, 0)", "told(3, 0)", "told(8, 0)", "told(LEAST, 0)", "told(MOST, 0)");
        s.tells(BAD, "told(0, -1)", "told(0, 7)", "told(0, LEAST)", "told(0, MOST)", "told(3, 7)");
        s.tells(0, "told(0, 0)", "told(0, 4)", "told(1, 4)", "told(2, 4)").tells(100, "told(0, 6)").tells(5, "told(2, 0)").tells(979, "told(2, 6)");
        s.gives(0, "set(0, 3, 9); told(0, 4)", "set(0, 3, 10); told(0, 4)", "set(0, 3, 999); told(0, 4)");
        s.gives(1, "set(0, 3, 8); told(0, 4)").gives(9, "set(0, 3, 0); told(0, 4)");
        s = full("promise 3");
        s.tells(999, "told(7, 1)", "told(7, 2)", "told(7, 4)").tells(0, "told(7, 3)", "told(7, 5)").tells(1008, "told(7, 6)").tells(BAD, "told(8, 0)");
        due.part("promise 3, no butts");
        fresh().with("bed(1)").tells(BAD, "told(0, 0)", "told(0, 6)", "told(-1, 0)", "told(0, 7)");
    }

    /** LOSES: HOLDS / 50 and 1, HOLDS at most; held within 0 .. HOLDS by a TEXT. */
    private static void loses() {
        due.part("promise 3, loses");
        Script s = Gardens.dry(due).with("butt(0, 999, 0)");
        int[][] holdsLosesTank = {{0, 0, 0}, {1, 1, 0}, {49, 1, 0}, {50, 2, 1}, {99, 2, 1}, {100, 3, 1}, {149, 3, 1}, {150, 4, 2}, {999, 20, 10}};
        for (int[] v : holdsLosesTank) {
            String holds = "set(0, 2, " + v[0] + "); ";
            s.gives(v[1], holds + "told(0, 5)", holds + "turns(0, 2); told(0, 5)", holds + "turns(0, 4); told(0, 5)");
            s.gives(0, holds + "turns(0, 1); told(0, 5)", holds + "turns(0, 3); told(0, 5)");
            s.gives(v[2], holds + "turns(0, 5); told(0, 5)").gives(v[0] - v[1], holds + "days(1); told(0, 2)");
        }
        String[] laws = {"dry h-1", "dry h", "dry h+1", "dry 0-1", "dry 0", "dry 9999*9999*99", "dry 0-9999*9999*99", "dry 1/0"};
        // 9999 * 9999 * 99 is 9898020099, as an int 1308085507.
        int[] lost = {99, 100, 100, 0, 0, 100, 0, 0};
        for (int i = 0; i < laws.length; i++) {
            due.part("promise 3, " + laws[i]);
            s = Gardens.dry(due).with("butt(0, 200, 0); set(0, 2, 100)").text(laws[i]);
            s.gives(lost[i], "told(0, 5)", "turns(0, 4); told(0, 5)", "days(1); gallons(2)").gives(lost[i] / 2, "turns(0, 5); told(0, 5)");
            s.gives(0, "turns(0, 1); told(0, 5)", "turns(0, 3); told(0, 5)", "set(0, 2, 0); told(0, 5)");
        }
        due.part("promise 3, dry by the day and the room");
        Gardens.dry(due).with("butt(0, 200, 0); set(0, 2, 100); days(1); set(0, 2, 100)").text("dry s/100+d")
            .tells(3, "told(0, 5)").gives(4, "days(1); told(0, 5)").gives(1, "set(0, 1, 100); set(0, 2, 1); told(0, 5)");
    }

    private static void worth() {
        due.part("promise 3, worth");
        Script s = fresh().with("butt(0, 1, 0)");
        int[] ofOne = {1, 10, 998, 20, 991, 0};
        int[] ofMost = {999, 1008, 0, 2016, -7, 0};
        for (int kind = 0; kind < 6; kind++) {
            String turns = "turns(0, " + kind + "); ";
            s.gives(ofOne[kind], turns + "told(0, 6)").gives(ofMost[kind], turns + "set(0, 1, 999); told(0, 6)");
            s.gives(kind == 5 ? 999 : ofMost[kind], turns + "set(0, 1, 999); set(0, 2, 999); told(0, 6)");
        }
    }

    private static void catches() {
        Script s = some("promise 4");
        s.tells(BAD, "catches(-1, 0)", "catches(3, 0)", "catches(LEAST, 0)", "catches(MOST, 0)");
        s.tells(BAD, "catches(0, -1)", "catches(0, 10)", "catches(0, LEAST)", "catches(0, MOST)", "catches(3, 10)");
        s.tells(0, "catches(0, 0)", "catches(1, 0)", "catches(1, 9)", "catches(2, 0)").tells(63, "catches(0, 9)").tells(126, "catches(2, 9)");
        full("promise 4").tells(499, "catches(7, 0)", "catches(7, 9)").tells(BAD, "catches(8, 0)", "catches(7, 10)");
        due.part("promise 4, no butts");
        fresh().tells(BAD, "catches(0, 0)", "catches(0, 9)", "catches(-1, 0)");
    }

    /** What catch gives is held within 0 .. 999 ahead of what the KIND makes of it. */
    private static void catchesOfKinds() {
        String[] laws = {"0-1", "0", "1", "4", "5", "6", "9", "10", "11", "998", "999", "1000", "9999", "1/0", "9999*9999*99", "9999*9999*9999"};
        // The last but one is 1308085507 as an int, the last -1028143713 (999700029999 less 233 times 2 to the 32).
        int[] given = {0, 0, 1, 4, 5, 6, 9, 10, 11, 998, 999, 999, 999, 0, 999, 0};
        for (int i = 0; i < laws.length; i++) {
            due.part("promise 4, catch " + laws[i]);
            int v = given[i];
            Script s = fresh().with("butt(0, 999, 0)").text("catch " + laws[i]);
            s.tells(v, "catches(0, 0)", "catches(0, 9)").gives(v / 2, "turns(0, 1); catches(0, 5)").gives(0, "turns(0, 3); catches(0, 5)");
            s.gives(v < 5 ? 0 : v - 5, "turns(0, 2); catches(0, 5)").gives(v < 10 ? 0 : v - 10, "turns(0, 4); catches(0, 5)");
            s.gives(2 * v, "turns(0, 5); catches(0, 5)", "turns(0, 5); pourDown(5); gallons(0)");
        }
        due.part("promise 4, without a text");
        Script s = fresh().with("butt(0, 999, 0)");
        for (int r = 0; r <= 9; r++) {
            s.tells(10 * r, "catches(0, " + r + ")").gives(5 * r, "turns(0, 1); catches(0, " + r + ")");
            s.gives(r == 0 ? 0 : 10 * r - 10, "turns(0, 4); catches(0, " + r + ")").gives(20 * r, "turns(0, 5); catches(0, " + r + ")");
        }
        due.part("promise 4, as full as it is large");
        fresh().with("butt(0, 30, 0); set(0, 2, 30)").text("catch s+h+r").tells(60, "catches(0, 0)").tells(69, "catches(0, 9)");
    }

    private static void as() {
        Script s = some("promise 5");
        s.tells(BAD, "as(-1, 0)", "as(3, 0)", "as(LEAST, 0)", "as(MOST, 0)", "as(0, -1)", "as(0, 6)", "as(0, LEAST)", "as(0, MOST)");
        s.tells(100, "as(0, 0)").tells(KIND, "as(0, 1)", "as(0, 2)", "as(0, 3)", "as(0, 4)", "as(0, 5)");
        s.tells(50, "as(1, 0)", "as(1, 1)", "as(1, 3)").tells(KIND, "as(1, 2)", "as(1, 4)", "as(1, 5)");
        s.tells(999, "as(2, 0)", "as(2, 5)").tells(KIND, "as(2, 1)", "as(2, 2)", "as(2, 3)", "as(2, 4)");
        s.gives(100, "turns(0, 1); as(0, 0)", "turns(0, 1); as(0, 1)", "turns(0, 2); as(0, 0)", "turns(0, 2); as(0, 2)");
        s.gives(KIND, "turns(0, 1); as(0, 3)", "turns(0, 1); as(0, 2)", "turns(0, 2); as(0, 4)", "turns(0, 2); as(0, 1)");
        s.gives(100, "turns(0, 4); as(0, 0)", "turns(0, 4); as(0, 2)", "turns(0, 4); as(0, 4)");
        s.gives(KIND, "turns(0, 4); as(0, 1)", "turns(0, 4); as(0, 3)", "turns(0, 4); as(0, 5)");
        full("promise 5").tells(999, "as(7, 0)", "as(7, 1)").tells(KIND, "as(7, 3)").tells(BAD, "as(8, 0)", "as(8, 3)", "as(7, 6)");
    }

    private static void turns() {
        Script s = some("promise 6");
        s.tells(BAD, "turns(-1, 0)", "turns(3, 0)", "turns(LEAST, 0)", "turns(MOST, 0)");
        s.tells(BAD, "turns(0, -1)", "turns(0, 6)", "turns(0, LEAST)", "turns(0, MOST)", "turns(3, 6)");
        s.gives(0, "turns(0, 5)", "turns(2, 0); told(2, 0)").gives(5, "turns(2, 0)", "turns(2, 5)", "turns(0, 5); told(0, 0)").gives(3, "turns(1, 0)");
        s.tells(0, "turns(0, 0)").tells(5, "turns(2, 5)");
        full("promise 6").gives(1, "turns(7, 5)").tells(BAD, "turns(8, 5)", "turns(7, 6)");
    }

    private static void set() {
        Script s = some("promise 7");
        s.tells(BAD, "set(-1, 1, 50)", "set(3, 1, 50)", "set(LEAST, 1, 50)", "set(MOST, 3, 0)");
        s.tells(BAD, "set(0, 0, 1)", "set(0, 4, 1)", "set(0, -1, 1)", "set(0, LEAST, 1)", "set(0, MOST, 1)");
        s.tells(BAD, "set(0, 1, 8)", "set(0, 1, 1000)", "set(0, 1, 0)", "set(0, 1, LEAST)", "set(0, 1, MOST)", "set(1, 1, 0)", "set(1, 1, -1)");
        s.tells(BAD, "set(0, 2, -1)", "set(0, 2, 101)", "set(0, 2, LEAST)", "set(0, 2, MOST)", "set(1, 2, 51)", "set(2, 2, 1000)");
        s.tells(BAD, "set(0, 3, -1)", "set(0, 3, 1000)", "set(0, 3, LEAST)", "set(0, 3, MOST)");
        s.gives(100, "set(0, 1, 9)", "set(0, 1, 999)", "set(0, 1, 100)").gives(50, "set(1, 1, 1)", "set(1, 1, 50)");
        s.gives(9, "set(0, 2, 0)", "set(0, 2, 100)", "set(0, 2, 9)").gives(10, "set(0, 3, 0)", "set(0, 3, 999)", "set(0, 3, 10)");
        s.gives(9, "set(0, 1, 9); told(0, 1)", "set(0, 1, 9); told(0, 2)").gives(1, "set(1, 1, 1); told(1, 1)").gives(999, "set(0, 3, 999); told(0, 3)");
        s.gives(BAD, "set(0, 2, 100); set(0, 1, 99)", "set(0, 1, 9); set(0, 2, 10)").gives(100, "set(0, 2, 100); set(0, 1, 100)");
        s = full("promise 7");
        s.tells(BAD, "set(7, 1, 998)", "set(7, 1, 1000)", "set(7, 2, 1000)", "set(8, 1, 999)").tells(999, "set(7, 1, 999)", "set(7, 2, 999)");
        s.gives(999, "set(7, 2, 998)").gives(998, "set(7, 2, 998); set(7, 1, 998); told(7, 1)").gives(0, "set(7, 3, 999)");
    }

    private static void bed() {
        Script s = some("promise 8");
        s.tells(BAD, "bed(-1)", "bed(100)", "bed(LEAST)", "bed(MOST)");
        s.gives(3, "bed(0)", "bed(99)").gives(4, "bed(99); count(1)").gives(99, "bed(99); bedTold(3, 0)").gives(0, "bed(9); bedTold(3, 1)", "bed(9); bedTold(3, 2)");
        s.gives(7, "bed(1); bed(1); bed(1); bed(1); bed(1)").gives(FULL, "bed(1); bed(1); bed(1); bed(1); bed(1); bed(1)");
        full("promise 8").tells(FULL, "bed(0)", "bed(99)").tells(BAD, "bed(-1)", "bed(100)", "bed(MOST)");
        s = some("promise 9");
        s.tells(BAD, "bedTold(-1, 0)", "bedTold(3, 0)", "bedTold(LEAST, 0)", "bedTold(MOST, 0)");
        s.tells(BAD, "bedTold(0, -1)", "bedTold(0, 3)", "bedTold(0, LEAST)", "bedTold(0, MOST)", "bedTold(3, 3)");
        s.tells(7, "bedTold(0, 0)").tells(0, "bedTold(0, 2)", "bedTold(1, 0)", "bedTold(1, 1)", "bedTold(1, 2)").tells(99, "bedTold(2, 0)");
        full("promise 9").tells(99, "bedTold(7, 0)").tells(0, "bedTold(7, 1)", "bedTold(7, 2)").tells(BAD, "bedTold(8, 0)", "bedTold(7, 3)");
        due.part("promise 9, no beds");
        fresh().with("butt(0, 1, 0)").tells(BAD, "bedTold(0, 0)", "bedTold(-1, 0)", "bedTold(0, 3)");
    }

    private static void wants() {
        Script s = some("promise 10");
        s.tells(BAD, "wants(-1, 1)", "wants(3, 1)", "wants(LEAST, 1)", "wants(MOST, 1)");
        s.tells(BAD, "wants(0, -1)", "wants(0, 100)", "wants(0, LEAST)", "wants(0, MOST)", "wants(3, 100)");
        s.gives(7, "wants(0, 0)", "wants(0, 99)", "wants(0, 7)").gives(0, "wants(0, 0); bedTold(0, 0)").gives(99, "wants(0, 99); bedTold(0, 0)");
        s.gives(14, "wants(0, 99); bedTold(0, 1)");
        full("promise 10").gives(99, "wants(7, 0)").tells(BAD, "wants(8, 0)", "wants(7, 100)");
        due.part("promise 10, no beds");
        fresh().with("butt(0, 1, 0)").tells(BAD, "wants(0, 0)", "wants(-1, 0)");
    }

    private static void deal() {
        Script s = some("promise 11");
        s.tells(BAD, "deal(0)", "deal(9)", "deal(-1)", "deal(LEAST)", "deal(MOST)");
        s.gives(1, "deal(1)").gives(4, "deal(4)", "deal(1); count(0)").gives(5, "deal(5)", "deal(6)", "deal(8)").gives(8, "deal(5); count(0)", "deal(6); count(0)");
        s.gives(0, "deal(8); deal(1)").gives(2, "deal(3); deal(3)");
        full("promise 11").tells(0, "deal(1)", "deal(8)").tells(BAD, "deal(0)", "deal(9)");
        due.part("promise 11, all of them");
        int z = 1;
        for (int i = 0; i < 24; i++) {
            z = Due.nextZ(z);
        }
        fresh().gives(8, "deal(8)").gives(z, "deal(8); count(10)", "deal(7); deal(2); count(10)", "deal(5); deal(8); deal(8); count(10)");
    }

    /** The least and the most that a draw can make of a KIND, a ROOM, a TAP. */
    private static void dealByLot() {
        due.part("promise 11, rests of draws");
        // Each row: z behind the draw, what of the BUTT it makes (0 KIND, 1 ROOM, 3 TAP), and what that is.
        int[][] draws = {{5 << 8, 0, 5}, {6 << 8, 0, 0}, {-1, 0, 3}, {LEAST, 0, 2}, {MOST, 0, 1}, {255, 0, 0}, {199 << 8, 1, 200}, {200 << 8, 1, 1},
            {198 << 8, 1, 199}, {-1, 1, 16}, {LEAST, 1, 9}, {9 << 8, 3, 9}, {10 << 8, 3, 0}, {-1, 3, 5}, {LEAST, 3, 8}, {0, 3, 0}};
        for (int[] v : draws) {
            int seed = v[0];
            for (int i = 0; i < (v[1] == 3 ? 3 : v[1] + 1); i++) {
                seed = Due.lastZ(seed);
            }
            fresh().gives(v[2], "seed(" + seed + "); deal(1); told(0, " + v[1] + ")").gives(0, "seed(" + seed + "); deal(1); told(0, 2)");
            fresh().gives(v[0], v[1] == 3 ? "seed(" + seed + "); deal(1); count(10)" : "seed(" + v[0] + "); count(10)");
        }
    }

    private static void seed() {
        Script s = some("promise 12");
        int z = Due.nextZ(Due.nextZ(1));
        s.gives(z, "seed(0)", "seed(LEAST)", "seed(MOST)", "seed(" + z + ")", "seed(NONE)").tells(z, "seed(" + z + ")", "count(10)");
        s.gives(LEAST, "seed(LEAST); count(10)", "seed(LEAST); seed(3)").gives(MOST, "seed(MOST); count(10)").gives(0, "seed(0); count(10)");
        s.gives(Due.nextZ(LEAST), "seed(LEAST); days(1); count(10)").gives(Due.nextZ(MOST), "seed(MOST); days(1); count(10)");
        s.gives(12345, "seed(0); days(1); count(10)").gives(BAD, "seed(BAD); seed(0)");
    }

    private static void rule() {
        Script s = some("promise 13");
        s.tells(BAD, "rule(-1, 0)", "rule(4, 0)", "rule(LEAST, 0)", "rule(MOST, 0)", "rule(4, 101)");
        s.tells(BAD, "rule(0, -1)", "rule(0, 101)", "rule(0, LEAST)", "rule(0, MOST)", "rule(1, -1)", "rule(1, 101)", "rule(1, LEAST)", "rule(1, MOST)");
        s.tells(BAD, "rule(2, -1)", "rule(2, 2)", "rule(2, LEAST)", "rule(2, MOST)", "rule(3, -1)", "rule(3, 2)", "rule(3, LEAST)", "rule(3, MOST)");
        s.gives(0, "rule(0, 100)", "rule(1, 100)", "rule(3, 1)", "rule(2, 0); count(5)", "rule(3, 1); rule(3, 0); count(6)");
        s.gives(1, "rule(2, 0)", "rule(2, 1)", "rule(3, 1); count(6)", "rule(3, 1); rule(3, 0)", "rule(0, 1); count(3)", "rule(1, 1); count(4)");
        s.gives(100, "rule(0, 100); count(3)", "rule(1, 100); count(4)", "rule(0, 100); rule(0, 0)", "rule(1, 100); rule(1, 0)");
    }

    private static void days() {
        Script s = some("promise 14");
        s.tells(BAD, "days(0)", "days(101)", "days(-1)", "days(LEAST)", "days(MOST)");
        s.gives(0, "days(1)", "days(100)").gives(3, "days(1); count(2)").gives(102, "days(100); count(2)");
        s.gives(100, "rule(0, 100); rule(1, 100); days(100)").gives(1, "rule(0, 100); rule(1, 100); days(1)", "rule(0, 100); days(2)");
        s.gives(1, "rule(0, 100); days(1); count(6)").gives(0, "rule(0, 100); days(2); count(6)", "rule(3, 1); days(1)").gives(50, "rule(0, 100); days(100)");
        due.part("promise 14, no butts, no beds");
        fresh().gives(100, "rule(0, 100); rule(1, 100); days(100)").gives(0, "rule(0, 100); rule(1, 100); days(100); gallons(0)");
        due.part("promise 14, full");
        s = Gardens.full(due);
        s.tells(BAD, "days(0)", "days(101)").gives(8 * 499, "days(1); gallons(0)", "days(1); gallons(1)").gives(7200, "days(1); gallons(4)");
        s.gives(792 * 100, "days(100); gallons(5)").gives(0, "days(100); gallons(6)").gives(6700, "days(100); gallons(4)");
    }

    private static void lastDays() {
        due.part("promise 14, the last but one");
        Script s = Gardens.onDay(due, 9998).with("bed(2)");
        s.tells(9998, "count(2)").gives(0, "days(1)", "days(2)").gives(9999, "days(1); count(2)", "days(2); count(2)", "days(100); count(2)");
        s.gives(1, "rule(0, 100); rule(1, 100); days(100)").gives(2, "days(100); gallons(6)");
        s.tells(BAD, "days(0)", "days(101)");
        due.part("promise 14, the last");
        s.with("days(1)").tells(9999, "count(2)").tells(0, "days(1)", "days(2)", "days(100)").tells(BAD, "days(0)", "days(101)");
        s.gives(0, "rule(0, 100); days(1)").gives(1, "rule(3, 1); days(1); count(6)");
        s.tells(2, "behind(0, 1)").tells(4, "behind(1, 1)").tells(202, "behind(100, 1)").tells(0, "dryBy()");
        s.tells(NONE, "taps(1)").tells(0, "leave(60, 0)", "leave(60, 1)");
        s.with("butt(1, 400, 0); set(0, 2, 301); wants(0, 1)").tells(NONE, "dryBy()").gives(300, "set(0, 2, 300); dryBy()");
        s.tells(400, "larger(0, 9999, 40)", "larger(0, 2, 40)").tells(NONE, "larger(0, 1, 40)");
        s.tells(40, "spares(0, 40)").tells(0, "taps(60)");
        due.part("promise 14, the day goes on where it is only thought");
        s = Gardens.onDay(due, 9999).with("butt(0, 999, 0); set(0, 2, 999)").text("dry (d>9999)*100");
        s.tells(999, "behind(1, 0)").tells(899, "behind(2, 0)").tells(799, "behind(3, 0)").tells(0, "told(0, 5)").tells(11, "dryBy()");
    }

    /** x is below WET behind a dry day, below STAYS behind a wet one. */
    private static void wetOrDry() {
        due.part("promise 14, wet or dry");
        // z behind the draw, and x of it.
        int[][] draws = {{0, 0}, {255, 0}, {256, 1}, {99 << 8, 99}, {100 << 8, 0}, {-1, 15}, {-256, 15}, {LEAST, 8}, {MOST, 7}, {50 << 8, 50}};
        for (int[] v : draws) {
            int x = v[1];
            Script s = fresh().with("seed(" + Due.lastZ(v[0]) + "); rule(1, 0)");
            s.gives(0, "rule(0, " + x + "); days(1)").gives(1, "rule(0, " + (x + 1) + "); days(1)");
            s.gives(v[0], "rule(0, " + x + "); days(1); count(10)").gives(Due.nextZ(v[0]), "rule(0, " + (x + 1) + "); days(1); count(10)");
            s = fresh().with("seed(" + Due.lastZ(v[0]) + "); rule(0, 0); rule(3, 1)");
            s.gives(0, "rule(1, " + x + "); days(1)").gives(1, "rule(1, " + (x + 1) + "); days(1)");
            s.gives(0, "rule(1, " + x + "); days(1); count(6)").gives(1, "rule(1, " + (x + 1) + "); days(1); count(6)");
        }
        due.part("promise 14, how much rain");
        int[][] rains = {{0, 1}, {8 << 8, 9}, {9 << 8, 1}, {7 << 8, 8}, {-1, 1}, {LEAST, 6}, {MOST, 5}};
        for (int[] v : rains) {
            Script s = fresh().with("seed(" + Due.lastZ(Due.lastZ(v[0])) + "); rule(0, 100); butt(0, 999, 0)");
            s.gives(10 * v[1], "days(1); gallons(0)").gives(v[0], "days(1); count(10)");
        }
    }

    /** What is above ROOM runs over; what is not does not. */
    private static void rain() {
        due.part("promise 14 and 16, what runs over");
        Script s = fresh().with("butt(0, 50, 0); butt(3, 20, 0); butt(3, 5, 0)");
        s.gives(0, "set(0, 2, 40); pourDown(1)", "set(0, 2, 40); pourDown(1); told(1, 2)").gives(50, "set(0, 2, 40); pourDown(1); told(0, 2)");
        s.gives(1, "set(0, 2, 41); pourDown(1); told(1, 2)").gives(0, "set(0, 2, 41); pourDown(1)").gives(49, "set(0, 2, 39); pourDown(1); told(0, 2)");
        String over = "set(0, 2, 50); set(1, 2, 10); ";
        s.gives(20, over + "pourDown(1); told(1, 2)").gives(0, over + "pourDown(1); told(2, 2)");
        s.gives(1, over + "set(1, 2, 11); pourDown(1); told(2, 2)");
        s.gives(5, over + "set(1, 2, 15); pourDown(1); told(2, 2)").gives(0, over + "set(1, 2, 15); pourDown(1)");
        s.gives(1, over + "set(1, 2, 15); set(2, 2, 1); pourDown(1)", over + "set(1, 2, 15); set(2, 2, 1); pourDown(1); gallons(1)");
        s.gives(10, over + "pourDown(1); gallons(0)").gives(10, over + "set(1, 2, 20); set(2, 2, 5); pourDown(1)");
        due.part("promise 14 and 16, one butt, no butts");
        fresh().with("butt(0, 9, 0)").gives(1, "pourDown(1)").gives(9, "pourDown(1); told(0, 2)").gives(81, "pourDown(9); gallons(1)");
        fresh().tells(0, "pourDown(0)", "pourDown(9)");
    }

    /** Of each BUTT what it HOLDS above its TAP, till a BED has what it WANTS. */
    private static void evening() {
        due.part("promise 14, evenings");
        Script s = Gardens.dry(due).with("butt(1, 100, 10); butt(1, 100, 20); bed(15); set(0, 2, 20); set(1, 2, 25)");
        s.gives(10, "days(1); told(0, 2)").gives(20, "days(1); told(1, 2)").gives(15, "days(1); bedTold(0, 1)").gives(0, "days(1); bedTold(0, 2)");
        s.gives(1, "set(1, 2, 24); days(1); bedTold(0, 2)", "wants(0, 16); days(1); bedTold(0, 2)").gives(14, "set(1, 2, 24); days(1); bedTold(0, 1)");
        s.gives(21, "set(1, 2, 26); days(1); told(1, 2)").gives(11, "wants(0, 9); days(1); told(0, 2)").gives(25, "wants(0, 10); days(1); told(1, 2)");
        s.gives(24, "wants(0, 11); days(1); told(1, 2)").gives(0, "wants(0, 0); days(1); bedTold(0, 1)").gives(20, "wants(0, 0); days(1); told(0, 2)");
        s.gives(10, "set(0, 3, 20); days(1); bedTold(0, 2)").gives(9, "set(0, 3, 19); days(1); bedTold(0, 2)").gives(20, "set(0, 3, 21); days(1); told(0, 2)");
        s.gives(15, "rule(2, 1); days(1); bedTold(0, 1)").gives(0, "rule(2, 1); days(1); gallons(3)").gives(1, "rule(2, 1); wants(0, 16); days(1); gallons(3)");
        s.gives(16, "rule(2, 1); wants(0, 16); days(1); bedTold(0, 1)").gives(0, "rule(2, 1); wants(0, 16); days(1); bedTold(0, 2)");
        due.part("promise 14, evenings without butts");
        s = Gardens.dry(due).with("bed(99)").gives(99, "days(1); gallons(6)", "rule(2, 1); days(1); gallons(3)", "rule(2, 1); days(1); gallons(5)");
        s.gives(0, "days(1); gallons(3)", "days(1); gallons(5)", "rule(2, 1); days(1); gallons(6)", "wants(0, 0); days(1); gallons(6)");
    }

    private static void gallons() {
        Script s = some("promise 15");
        s.tells(BAD, "gallons(-1)", "gallons(7)", "gallons(LEAST)", "gallons(MOST)").tells(0, "gallons(0)").tells(8, "gallons(6)").tells(204, "gallons(5)");
        full("promise 15").tells(8 * 999, "gallons(4)").tells(0, "gallons(0)", "gallons(6)").tells(BAD, "gallons(-1)", "gallons(7)");
    }

    private static void pourDown() {
        Script s = some("promise 16");
        s.tells(BAD, "pourDown(-1)", "pourDown(10)", "pourDown(LEAST)", "pourDown(MOST)").tells(0, "pourDown(0)");
        // 7 times 9 fall into the BUTT, twice that into the TANK.
        s.gives(106, "pourDown(9)").gives(189, "pourDown(9); gallons(0)").gives(72, "pourDown(9); told(0, 2)").gives(999, "pourDown(9); told(2, 2)");
        s.gives(106, "pourDown(9); gallons(1)");
        full("promise 16").gives(8 * 499, "pourDown(0)", "pourDown(9)").tells(BAD, "pourDown(-1)", "pourDown(10)");
    }

    private static void behind() {
        Script s = some("promise 17");
        s.tells(BAD, "behind(-1, 0)", "behind(101, 0)", "behind(LEAST, 0)", "behind(MOST, 0)");
        s.tells(BAD, "behind(1, -1)", "behind(1, 4)", "behind(1, LEAST)", "behind(1, MOST)", "behind(101, 4)");
        s.tells(988, "behind(0, 0)").tells(8, "behind(0, 1)", "behind(100, 1)").tells(106, "behind(0, 2)").tells(0, "behind(0, 3)", "behind(100, 3)");
        s.tells(977, "behind(1, 0)").tells(212, "behind(1, 2)").tells(106 * 101, "behind(100, 2)");
        s.gives(8 + 10600, "rule(2, 0); behind(100, 1)").gives(8, "rule(2, 0); behind(0, 1)");
        s = full("promise 17");
        s.tells(7992, "behind(0, 0)").tells(7200, "behind(1, 0)").tells(6700, "behind(100, 0)").tells(0, "behind(100, 1)", "behind(100, 2)");
        s.tells(8 * 499, "behind(1, 3)").tells(BAD, "behind(101, 0)", "behind(0, 4)");
    }

    private static void dryBy() {
        Script s = some("promise 18");
        s.tells(0, "dryBy()").gives(0, "set(0, 2, 10); dryBy()").gives(1, "set(0, 2, 11); dryBy()", "set(1, 2, 1); dryBy()");
        s.gives(1, "set(2, 2, 999); set(2, 3, 998); dryBy()");
        full("promise 18").tells(NONE, "dryBy()");
        due.part("promise 18");
        s = Gardens.dry(due).with("butt(1, 999, 0); bed(1)").tells(0, "dryBy()");
        s.gives(1, "set(0, 2, 1); dryBy()").gives(299, "set(0, 2, 299); dryBy()").gives(300, "set(0, 2, 300); dryBy()");
        s.gives(NONE, "set(0, 2, 301); dryBy()", "set(0, 2, 999); dryBy()", "set(0, 2, 1); wants(0, 0); dryBy()");
        s.with("set(0, 2, 301)").tells(NONE, "dryBy()");
        due.part("promise 18, the last of eight");
        s = Gardens.dry(due).with(8, "butt(1, 9, 0)").with("set(7, 2, 1)").tells(NONE, "dryBy()").gives(1, "bed(1); dryBy()").gives(0, "set(7, 3, 1); dryBy()");
    }

    private static void larger() {
        Script s = some("promise 19");
        s.tells(BAD, "larger(-1, 8, 1)", "larger(3, 8, 1)", "larger(LEAST, 8, 1)", "larger(MOST, 8, 1)");
        s.tells(BAD, "larger(0, -1, 1)", "larger(0, 10000, 1)", "larger(0, LEAST, 1)", "larger(0, MOST, 1)");
        s.tells(BAD, "larger(0, 8, 0)", "larger(0, 8, 41)", "larger(0, 8, LEAST)", "larger(0, 8, MOST)", "larger(0, 0, 41)");
        s.tells(100, "larger(0, 8, 1)", "larger(0, 9999, 40)", "larger(0, 8, 40)").tells(NONE, "larger(0, 7, 1)", "larger(0, 0, 40)");
        s.tells(50, "larger(1, 9999, 1)").tells(999, "larger(2, 8, 1)").tells(NONE, "larger(2, 7, 1)");
        full("promise 19").tells(999, "larger(7, 0, 40)", "larger(0, 9999, 1)").tells(BAD, "larger(8, 0, 1)", "larger(7, 0, 41)");
        due.part("promise 19, by tens");
        // The LIDDED one is as full as it is large behind the rain; 99 are wanted.
        s = fresh().with("rule(0, 100); rule(1, 100); butt(1, 1, 0); bed(99)").text("catch 999");
        s.tells(1, "larger(0, 98, 1)").tells(11, "larger(0, 97, 1)", "larger(0, 88, 1)").tells(21, "larger(0, 87, 1)").tells(91, "larger(0, 8, 1)");
        s.tells(101, "larger(0, 7, 1)", "larger(0, 0, 1)", "larger(0, 0, 40)").tells(91, "larger(0, 320, 40)").tells(101, "larger(0, 319, 40)");
        s.gives(99, "set(0, 1, 9); larger(0, 0, 1)").gives(100, "set(0, 1, 10); larger(0, 0, 1)").gives(108, "set(0, 1, 98); larger(0, 0, 1)");
        due.part("promise 19, the largest");
        s = fresh().with("rule(0, 100); rule(1, 100); butt(1, 9, 0); bed(99)").text("catch (s>998)*999");
        s.tells(999, "larger(0, 0, 1)").gives(NONE, "set(0, 1, 10); larger(0, 0, 1)", "set(0, 1, 998); larger(0, 0, 1)");
        s.gives(999, "set(0, 1, 989); larger(0, 0, 1)", "set(0, 1, 999); larger(0, 0, 1)").gives(NONE, "set(0, 1, 990); larger(0, 0, 1)");
        s.gives(990, "set(0, 1, 990); larger(0, 99, 1)").tells(9, "larger(0, 99, 1)");
    }

    private static void leave() {
        Script s = some("promise 20");
        s.tells(BAD, "leave(0, 0)", "leave(61, 0)", "leave(-1, 0)", "leave(LEAST, 0)", "leave(MOST, 0)");
        s.tells(BAD, "leave(1, -1)", "leave(1, 2)", "leave(1, LEAST)", "leave(1, MOST)", "leave(61, 2)");
        s.tells(2, "leave(1, 0)", "leave(60, 0)").tells(0, "leave(1, 1)", "leave(60, 1)");
        s.gives(7, "rule(2, 0); leave(1, 1)").gives(420, "rule(2, 0); leave(60, 1)");
        due.part("promise 20, no beds");
        fresh().with("butt(0, 9, 0)").tells(NONE, "leave(1, 0)", "leave(1, 1)", "leave(60, 0)").tells(BAD, "leave(0, 0)", "leave(61, 0)", "leave(1, 2)", "leave(1, -1)");
        due.part("promise 20, of several");
        s = Gardens.dry(due).with("bed(5)").tells(0, "leave(1, 0)", "leave(1, 1)");
        s.with("bed(5)").tells(0, "leave(1, 0)").tells(5, "leave(1, 1)").gives(1, "wants(1, 6); leave(1, 0)").gives(0, "wants(0, 6); leave(1, 0)");
        // With 9 gallons for 5, 5 and 9: without the last 1 is lacked, without one of the others 5.
        s.gives(2, "butt(1, 9, 0); set(0, 2, 9); bed(9); leave(1, 0)").gives(1, "butt(1, 9, 0); set(0, 2, 9); bed(9); leave(1, 1)");
        // What the first one does not draw is left for the others.
        s.gives(0, "butt(1, 9, 0); set(0, 2, 5); leave(1, 0)", "butt(1, 9, 0); set(0, 2, 5); leave(1, 1)").gives(1, "butt(1, 9, 0); set(0, 2, 4); leave(1, 1)");
        s.gives(7, "bed(5); bed(5); bed(5); bed(5); bed(5); bed(6); leave(1, 0)").gives(0, "bed(5); bed(5); bed(5); bed(5); bed(5); bed(5); leave(1, 0)");
    }

    private static void spares() {
        Script s = some("promise 21");
        s.tells(BAD, "spares(-1, 1)", "spares(3, 1)", "spares(LEAST, 1)", "spares(MOST, 1)");
        s.tells(BAD, "spares(0, 0)", "spares(0, 61)", "spares(0, LEAST)", "spares(0, MOST)", "spares(3, 61)").tells(0, "spares(0, 1)", "spares(2, 60)");
        // What can be drawn of the RIMMED one is what it spares, up to what is wanted.
        s.gives(30, "rule(2, 0); set(1, 2, 30); spares(1, 1)", "rule(2, 0); set(1, 2, 30); spares(1, 60)").gives(0, "rule(2, 0); set(1, 2, 30); spares(2, 60)");
        s.gives(29, "rule(2, 0); set(1, 2, 30); set(1, 3, 1); spares(1, 1)").gives(0, "rule(2, 0); set(1, 2, 30); set(1, 3, 30); spares(1, 1)");
        full("promise 21").tells(0, "spares(7, 1)", "spares(0, 60)").tells(BAD, "spares(8, 1)", "spares(7, 61)", "spares(7, 0)");
        due.part("promise 21, a butt whose tap is 999 holds all it has");
        Gardens.dry(due).with("butt(1, 999, 998); set(0, 2, 999); bed(1)").tells(1, "spares(0, 1)").gives(0, "set(0, 3, 999); spares(0, 1)");
    }

    private static void taps() {
        Script s = some("promise 22");
        s.tells(BAD, "taps(0)", "taps(61)", "taps(-1)", "taps(LEAST)", "taps(MOST)").tells(0, "taps(1)", "taps(60)");
        s.gives(2, "rule(2, 0); taps(1)", "rule(2, 0); taps(60)");
        full("promise 22").tells(0, "taps(1)", "taps(60)").tells(BAD, "taps(0)", "taps(61)");
        due.part("promise 22, no butts");
        fresh().with("bed(9)").tells(NONE, "taps(1)", "taps(60)").tells(BAD, "taps(0)", "taps(61)", "taps(MOST)");
        due.part("promise 22, of several");
        s = Gardens.dry(due).with(8, "butt(1, 9, 9)").with("bed(99); set(6, 2, 3); set(7, 2, 3)").tells(6, "taps(1)");
        s.gives(0, "set(0, 2, 3); taps(1)", "set(0, 2, 9); taps(1)", "set(0, 2, 4); set(1, 2, 4); taps(1)").gives(1, "set(0, 2, 1); set(1, 2, 4); taps(1)", "set(1, 2, 3); taps(1)");
        s.gives(1, "set(0, 2, 2); set(0, 3, 1); set(1, 2, 4); set(6, 2, 0); set(7, 2, 0); taps(1)").gives(0, "set(0, 2, 9); set(0, 3, 5); set(6, 2, 0); set(7, 2, 4); taps(1)");
        s.gives(1, "set(0, 2, 3); set(1, 2, 4); taps(1)").gives(0, "set(0, 2, 4); set(1, 2, 3); taps(1)");
        s.gives(6, "set(6, 2, 1); set(7, 2, 0); taps(1)").gives(7, "set(6, 2, 0); set(7, 2, 1); taps(1)");
        s.gives(7, "set(7, 2, 4); taps(1)").gives(6, "set(6, 2, 4); taps(1)").gives(0, "set(6, 2, 0); set(7, 2, 0); taps(1)");
    }

    private static void gauged() {
        Script s = some("promise 23");
        s.tells(BAD, "gauged(-1, 0, 0)", "gauged(4, 0, 0)", "gauged(LEAST, 0, 0)", "gauged(MOST, 0, 0)");
        s.tells(BAD, "gauged(0, -1, 0)", "gauged(0, 3, 0)", "gauged(0, LEAST, 0)", "gauged(0, MOST, 0)");
        s.tells(BAD, "gauged(0, 0, -1)", "gauged(0, 0, 2)", "gauged(0, 0, LEAST)", "gauged(0, 0, MOST)");
        s.tells(NOTHING, "gauged(3, 0, 0)", "gauged(3, 2, 1)").tells(BAD, "gauged(3, 3, 0)", "gauged(3, -1, 0)", "gauged(3, 0, 2)", "gauged(3, 0, -1)");
        s.tells(0, "gauged(2, 0, 0)", "gauged(2, 0, 1)", "gauged(0, 0, 0)").tells(16, "gauged(0, 0, 1)");
        // Of (NO NUMBER, -5) only the second counts: 8 and 5.
        s.tells(13, "gauged(1, 0, 1)").gives(0, "mark(1, 1, NONE); gauged(1, 0, 1)", "mark(1, 1, NONE); gauged(1, 2, 0)");
        s.gives(5, "set(0, 3, 999); set(0, 2, 50); mark(1, 1, 49); gauged(1, 0, 0)").gives(0, "set(0, 3, 999); set(0, 2, 50); mark(1, 1, 48); gauged(1, 0, 0)");
        s.gives(99999 + 8, "mark(1, 1, -99999); gauged(1, 0, 1)").gives(99999 - 9, "mark(1, 1, 99999); gauged(1, 0, 1)");
        s.gives(1, "mark(1, 1, 99999); gauged(1, 0, 0)").gives(0, "mark(1, 1, -99999); gauged(1, 0, 0)");
        s = full("promise 23");
        s.tells(0, "gauged(0, 7, 0)", "gauged(0, 7, 1)", "gauged(3, 7, 0)", "gauged(3, 7, 1)").tells(24 * (99999 + 999), "gauged(2, 7, 1)");
        s.tells(BAD, "gauged(0, 8, 0)", "gauged(4, 7, 0)").gives(NOTHING, "sheet(0, -1, 0); gauged(0, 7, 0)");
        due.part("promise 23, no butts");
        fresh().with("sheet(0, 0, 1)").tells(BAD, "gauged(0, 0, 0)", "gauged(0, -1, 0)", "gauged(1, 0, 0)");
    }

    private static void fine() {
        Script s = some("promise 24");
        s.tells(220, "fine()").gives(220 + 212, "days(1); fine()").gives(8, "back(); days(1); fine()");
        full("promise 24").tells(11, "fine()");
        due.part("promise 24, without a text");
        Gardens.dry(due).with("bed(3); rule(2, 1); days(2)").tells(6, "fine()").with("rule(2, 0); days(2)").tells(6, "fine()");
        String[] wraps = {"9999*9999*99", "0-9999*9999*99", "9999*9999*9999", "8*16*16*16*16*16*16*16", "0-8*16*16*16*16*16*16*16",
            "8*16*16*16*16*16*16*16-1", "(8*16*16*16*16*16*16*16-1)+1", "(0-8*16*16*16*16*16*16*16)/(0-1)", "16*16*16*16*16*16*16*16", "!(16*16*16*16*16*16*16*16)"};
        int[] given = {1308085507, -1308085507, (int) 999700029999L, LEAST, LEAST, MOST, LEAST, LEAST, 0, 1};
        for (int i = 0; i < wraps.length; i++) {
            due.part("promise 24, fine " + wraps[i]);
            fresh().text("fine " + wraps[i]).tells(given[i], "fine()");
        }
        due.part("the findings");
        due.is("INDEX", INDEX, -1000000013);
    }
}
