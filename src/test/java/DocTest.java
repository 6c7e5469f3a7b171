import java.util.Random;

/**
 * The document from its first line, for sentences that the tests of single promises look at only in passing: what
 * each says is tried by itself, in the document's order.
 */
public final class DocTest {
    private static final int BAD = WaterButts.BAD, NO = WaterButts.NO, FULL = WaterButts.FULL, NONE = WaterButts.NONE,
        NOTHING = WaterButts.NOTHING, KIND = WaterButts.KIND, INDEX = WaterButts.INDEX, SIZE = WaterButts.SIZE;
    private static final int MOST_CALLS = 512;

    private static final Due due = new Due();

    public static void main(String[] args) {
        everyGallonLed();
        wetBehindWet();
        gardensByLot();
        goneOnFrom();
        lastCall();
        wholeNumbers();
        answersAreTold();
        limitsApart();
        tapeAgain();
        buttsApart();
        kindsUnderOneAnother();
        lawsOfKinds();
        orderOfADay();
        runsOver();
        eveningByNumbers();
        draws();
        thoughtBeyondTheLastDay();
        thoughtByTexts();
        largerHoldsWhatItHolds();
        textsAndWords();
        textsOfKeysApart();
        namesInDays();
        sheetsApart();
        slotsAndImages();
        imageKeeps();
        tapeAndImage();
        daysTold();
        due.end();
    }

    private static Script fresh() {
        return new Script(due);
    }

    private static Script dry() {
        return Gardens.dry(due);
    }

    // ---- What it is

    /** FALLEN is what is HELD, DRAINED, LOST and drawn (HAD less BOUGHT); what was wanted is HAD or LACKED. */
    private static void everyGallonLed() {
        String[] laws = {"catch r*r+3", "catch (h<40)*30", "catch s-h", "dry h/3", "dry d", "dry (s>99)*9+1"};
        for (int number = 1; number <= 40; number++) {
            due.part("what it is, every gallon led, garden " + number);
            Random lot = new Random(number * 31L);
            WaterButts x = new WaterButts();
            x.seed(lot.nextInt());
            x.deal(1 + lot.nextInt(8));
            int wanted = 0;
            int wants = 0;
            for (int step = 0; step < 20; step++) {
                int n = 1 + lot.nextInt(9);
                switch (lot.nextInt(7)) {
                    case 0: x.pourDown(n); break;
                    case 1: wants += x.bed(n) >= 0 ? n : 0; break;
                    case 2: x.rule(2, n % 2); break;
                    case 3: Due.text(x, laws[n % laws.length]); break;
                    case 4: x.turns(n % 3, n % 6); break;
                    default: x.days(n); wanted += n * wants; break;
                }
                due.is("FALLEN less DRAINED, LOST and drawn", x.gallons(0) - x.gallons(1) - x.gallons(2) - x.gallons(5) + x.gallons(3), x.gallons(4));
                due.is("HAD and LACKED", x.gallons(5) + x.gallons(6), wanted);
            }
        }
    }

    /** STAYS alone rules behind a wet day, WET alone behind a dry one. */
    private static void wetBehindWet() {
        due.part("what it is, wet days behind wet ones");
        Script s = fresh().with("rule(0, 0); rule(1, 100)");
        s.gives(0, "days(100)", "days(100); count(6)").gives(100, "rule(3, 1); days(100)").gives(1, "rule(3, 1); days(100); count(6)");
        s.gives(0, "rule(3, 1); days(100); rule(1, 0); days(1)", "rule(3, 1); rule(1, 0); days(1); rule(1, 100); days(100)");
        fresh().with("rule(0, 100); rule(1, 0)").gives(50, "days(100)").gives(100, "days(1); rule(1, 100); days(100)", "days(1); rule(0, 0); rule(1, 100); days(100)");
    }

    /** The same lot, the same garden; another one, another. */
    private static void gardensByLot() {
        due.part("what it is, gardens by lot");
        Script s = fresh();
        int z = 6;
        int[] bounds = {6, 200, 10};
        int[] whats = {0, 1, 3};
        for (int i = 0; i < 8; i++) {
            for (int part = 0; part < 3; part++) {
                z = Due.nextZ(z);
                int v = Due.drawOf(z) % bounds[part] + (part == 1 ? 1 : 0);
                s.gives(v, "seed(6); deal(8); told(" + i + ", " + whats[part] + ")", "seed(6); deal(3); deal(8); told(" + i + ", " + whats[part] + ")");
            }
        }
        s.gives(z, "seed(6); deal(8); count(10)", "seed(6); deal(8); deal(8); count(10)", "deal(8); seed(" + z + "); days(3); seed(" + z + "); deal(8); count(10)");
    }

    /** Told in rows that can be checked, kept, and gone on from. */
    private static void goneOnFrom() {
        due.part("what it is, kept and gone on from");
        Script s = fresh().with("seed(11); deal(4); bed(9); bed(30); days(10); keep()");
        WaterButts y = new WaterButts();
        y.seed(11);
        y.deal(4);
        y.bed(9);
        y.bed(30);
        y.days(10);
        for (int i = 0; i < 30; i++) {
            y.days(1);
            s.with("tell(" + y.gallons(4) + "); tell(" + y.gallons(6) + ")");
        }
        s.tells(0, "check(30)").gives(0, "days(50); check(30)", "days(9); seed(3); rule(0, 99); wants(0, 0); check(30)").gives(59, "check(29)");
        s.gives(y.gallons(4), "days(30); gallons(4)", "days(77); back(); days(30); gallons(4)", "days(20); keep(); days(50); back(); days(10); gallons(4)");
        s.gives(y.count(10), "days(30); count(10)", "days(77); back(); days(30); count(10)", "days(20); keep(); days(50); back(); days(10); count(10)");
    }

    /** An object is for 512 calls, the last of them among them. */
    private static void lastCall() {
        due.part("what it is, the 512th call");
        int lacked = MOST_CALLS - 5;
        for (int last = 0; last < 5; last++) {
            WaterButts x = new WaterButts();
            x.rule(0, 0);
            x.rule(1, 0);
            x.bed(1);
            x.keep();
            for (int made = 4; made < MOST_CALLS - 1; made++) {
                x.days(1);
            }
            switch (last) {
                case 0: due.is("gallons(6)", x.gallons(6), lacked); break;
                case 1: due.is("count(2)", x.count(2), lacked); break;
                case 2: due.is("behind(100, 1)", x.behind(100, 1), lacked + 100); break;
                case 3: due.is("bedTold(0, 2)", x.bedTold(0, 2), lacked); break;
                default: due.is("back()", x.back(), 0); break;
            }
        }
        due.part("what it is, 512 texts and rows");
        WaterButts x = new WaterButts();
        for (int made = 0; made < MOST_CALLS - 2; made += 2) {
            due.is("feed", x.feed(0x66696e65, 0x20312031, 0x20202020), 12);
            due.is("text(), fine 1 1", x.text(), -107);
        }
        due.is("feed, call 511", x.feed(0x66696e65, 0x20312031, 0x20202020), 12);
        due.is("text(), call 512", x.text(), -107);
    }

    // ---- Terms

    /** / cuts towards 0, wherever the document halves, divides, or leaves a rest. */
    private static void wholeNumbers() {
        due.part("terms, / cuts towards 0");
        Script s = fresh().with("butt(1, 999, 0); set(0, 2, 149)").text("catch r*7");
        s.gives(3, "catches(0, 1)").gives(24, "catches(0, 7)").gives(1, "turns(0, 5); told(0, 5)").gives(3, "turns(0, 0); told(0, 5)");
        s.gives(-3, "lay(0, 3, -11); rest(0, 4)", "lay(0, 3, -11); rest(0, -4)").gives(3, "lay(0, 3, 11); rest(0, -4)");
        fresh().text("fine (0-11)/4").tells(-2, "fine()");
        fresh().text("fine 11/(0-4)").tells(-2, "fine()");
        fresh().text("fine (0-3)/4").tells(0, "fine()");
    }

    /** No refusal is the answer of a call that is not refused, and those of one name are one number everywhere. */
    private static void answersAreTold() {
        due.part("terms, the refusals");
        int[] all = {BAD, NO, FULL, NONE, NOTHING, KIND, INDEX, SIZE};
        for (int i = 0; i < all.length; i++) {
            for (int k = 0; k < i; k++) {
                due.is("two of them are one number", all[i] == all[k] ? 1 : 0, 0);
            }
            // A number that waits, a number in a SLOT, z: they may be any, these too.
            fresh().gives(all[i], "seed(" + all[i] + "); count(10)", "seed(" + all[i] + "); seed(0)").gives(all[i] % 1000, "lay(0, 3, " + all[i] + "); rest(0, 1000)");
            fresh().gives(1, "tell(" + all[i] + ")").gives(1, "keep(); tell(" + all[i] + "); check(1)");
        }
    }

    /** So many at most of each: what there is of others leaves room for it, and is left room by it. */
    private static void limitsApart() {
        String butts = "deal(8)";
        String beds = "bed(1); bed(1); bed(1); bed(1); bed(1); bed(1); bed(1); bed(1)";
        String tape = "feed(0, 0, 0); feed(0, 0, 0); feed(0, 0, 0); feed(0, 0, 0); feed(0, 0, 0); feed(0, 0, 0); feed(0, 0, 0); feed(0, 0, 0)";
        due.part("terms, limits apart, butts");
        fullOfTexts().with(beds).with(60, "tell(1)").with(tape).gives(0, "butt(0, 9, 0)").gives(1, "butt(0, 9, 0); count(0)").gives(9, "butt(0, 9, 0); told(0, 1)")
            .gives(8, "deal(8)", "deal(8); count(0)").gives(FULL, "deal(8); butt(0, 9, 0)", "bed(1)", "tell(1)", "feed(0, 0, 0)").gives(0, "deal(8); deal(1)");
        due.part("terms, limits apart, beds");
        fullOfTexts().with(butts).with(60, "tell(1)").with(tape).gives(0, "bed(9)").gives(1, "bed(9); count(1)").gives(9, "bed(9); bedTold(0, 0)")
            .gives(8, beds + "; count(1)").gives(FULL, beds + "; bed(1)", "butt(0, 9, 0)");
        due.part("terms, limits apart, texts");
        fresh().with(butts).with(beds).with(60, "tell(1)").tape("fine 7").gives(0, "text()").gives(1, "text(); count(7)").gives(7, "text(); fine()");
        due.part("terms, limits apart, numbers that wait");
        fullOfTexts().with(butts).with(beds).with(tape).gives(1, "tell(5)").gives(1, "tell(5); count(8)");
        due.part("terms, limits apart, bytes");
        fullOfTexts().with(butts).with(beds).with(60, "tell(1)").gives(12, "feed(0, 0, 0)").gives(96, tape, tape + "; count(9)").gives(FULL, tape + "; feed(0, 0, 0)");
        due.part("terms, limits apart, sheets and slots");
        fullOfTexts().with(butts).with(beds).with(60, "tell(1)").with(tape).gives(24, "sheet(3, 1, 24)").gives(0, "lay(4, 1, 7)", "lay(4, 3, 9)").gives(9, "lay(4, 3, 9); rest(4, 10)").gives(8, "keep()", "keep(); back()");
    }

    private static Script fullOfTexts() {
        Script s = fresh();
        for (int i = 0; i < 14; i++) {
            s.text("dry " + i);
        }
        return s;
    }

    /** Behind a TEXT, or a FAULT, at its very end THE TAPE takes as much as a new one. */
    private static void tapeAgain() {
        String[] used = {"fine 1" + "+1".repeat(45), "fine 1" + " ".repeat(90), "fine 1" + " ".repeat(89) + "+", "fine 1" + " ".repeat(89) + ")", " ".repeat(96), "$".repeat(96), ""};
        int[] answers = {0, 0, -196, -195, -196, -100, -100};
        for (int i = 0; i < used.length; i++) {
            due.part("terms 4, the tape behind '" + used[i] + "'");
            fresh().tape(used[i]).does(answers[i], "text()").tells(0, "count(9)").tells(BAD, "trim(1)").gives(12, "feed(0, 0, 0)", "feed(0, 0, 0); count(9)")
                .tape("fine 7*3").tells(8, "count(9)").gives(Math.max(0, answers[i] + 1), "text()").gives(21, "text(); fine()");
            fresh().tape(used[i]).does(answers[i], "text()").tape("fine 2" + "+2".repeat(45)).tells(96, "count(9)").gives(92, "text(); fine()");
            fresh().tape(used[i]).does(answers[i], "text()").tape("fine 2" + "+2".repeat(44) + "+ ").tells(-196, "text()");
        }
    }

    /** What is done with one BUTT, or one BED, is not done with the others. */
    private static void buttsApart() {
        due.part("terms 1, butts apart");
        Script s = fresh().with("butt(0, 100, 1); butt(0, 101, 2); butt(0, 102, 3); bed(4); bed(5); bed(6)");
        for (int i = 0; i < 3; i++) {
            int[] first = {0, 100 + i, 0, i + 1};
            for (int other = 0; other < 3; other++) {
                if (other != i) {
                    s.gives(first[0], "turns(" + other + ", 5); told(" + i + ", 0)").gives(first[1], "set(" + other + ", 1, 50); told(" + i + ", 1)");
                    s.gives(first[2], "set(" + other + ", 2, 50); told(" + i + ", 2)").gives(first[3], "set(" + other + ", 3, 50); told(" + i + ", 3)");
                    s.gives(4 + i, "wants(" + other + ", 99); bedTold(" + i + ", 0)");
                }
            }
            s.gives(5, "turns(" + i + ", 5); told(" + i + ", 0)").gives(50, "set(" + i + ", 1, 50); told(" + i + ", 1)", "set(" + i + ", 2, 50); told(" + i + ", 2)");
            s.gives(50, "set(" + i + ", 3, 50); told(" + i + ", 3)").gives(99, "wants(" + i + ", 99); bedTold(" + i + ", 0)");
        }
    }

    /** All are BUTTS; RIMMED under LIDDED, FLAP under FLUSHED, and none the other way round. */
    private static void kindsUnderOneAnother() {
        due.part("terms 1, kinds under one another");
        int[] above = {-1, 0, 0, 1, 2, 0};
        int[] worth = {77, 86, 922, 172, 915, 7};
        for (int kind = 0; kind < 6; kind++) {
            Script s = fresh().with("butt(" + kind + ", 77, 0); set(0, 2, 7); lay(0, 1, 0)");
            for (int as = 0; as < 6; as++) {
                boolean under = as == kind || as == above[kind] || above[kind] > 0 && as == above[above[kind]];
                s.tells(under ? 77 : KIND, "as(0, " + as + ")").tells(under ? worth[kind] : KIND, "ask(0, " + as + ")");
            }
        }
    }

    /** Each law of a KIND by way of the one above it: what changes there changes here. */
    private static void lawsOfKinds() {
        due.part("terms 1, laws of kinds");
        Script s = fresh().with("butt(0, 500, 0); set(0, 2, 333)").text("catch r*11+4").text("dry h/4+5");
        // A BUTT catches 59 of 5 and loses 88.
        int[] caught = {59, 29, 54, 0, 49, 118};
        int[] loses = {88, 0, 88, 0, 88, 44};
        int[] worth = {500, 509, 499, 1018, 492, 333};
        // On a dry day a BUTT catches 4 (337 then), and loses 89 of that.
        int[] held = {337, 335, 333, 333, 333, 341};
        int[] lost = {89, 0, 88, 0, 88, 45};
        for (int kind = 0; kind < 6; kind++) {
            String turns = "turns(0, " + kind + "); ";
            s.gives(caught[kind], turns + "catches(0, 5)", turns + "pourDown(5); gallons(0)").gives(loses[kind], turns + "told(0, 5)").gives(worth[kind], turns + "told(0, 6)");
            s.gives(held[kind] - lost[kind], "rule(0, 0); " + turns + "days(1); told(0, 2)").gives(lost[kind], "rule(0, 0); " + turns + "days(1); gallons(2)");
        }
    }

    /** (2) ahead of (3), (3) ahead of (4), (4) ahead of (5). */
    private static void orderOfADay() {
        due.part("terms 2, rain, then what is lost");
        Script s = dry().with("butt(0, 999, 0)").text("catch 100");
        s.gives(97, "days(1); told(0, 2)").gives(3, "days(1); gallons(2)").gives(100, "days(1); gallons(0)");
        due.part("terms 2, rain, then the evening");
        s.with("bed(98)").gives(97, "days(1); bedTold(0, 1)").gives(1, "days(1); bedTold(0, 2)").gives(0, "days(1); told(0, 2)");
        due.part("terms 2, what runs over is gone ahead of the evening");
        s = dry().with("butt(1, 40, 0); bed(40)").text("catch 100");
        s.gives(10, "days(1); gallons(1)").gives(40, "days(1); bedTold(0, 1)").gives(0, "days(1); told(0, 2)");
        due.part("terms 2, lost, then the evening");
        dry().with("butt(0, 999, 0); set(0, 2, 100); bed(99)").gives(97, "days(1); bedTold(0, 1)").gives(2, "days(1); bedTold(0, 2)");
        due.part("terms 2, lost of all, then the evening of all");
        s = dry().with("butt(0, 999, 0); butt(0, 999, 0); set(0, 2, 50); set(1, 2, 50); bed(60)");
        s.gives(0, "days(1); told(0, 2)").gives(36, "days(1); told(1, 2)").gives(4, "days(1); gallons(2)");
        due.part("terms 2, the day is one more at its end");
        s = dry().with("butt(0, 999, 0); set(0, 2, 999)").text("dry d+10");
        s.gives(989, "days(1); told(0, 2)").gives(11, "days(1); told(0, 5)").gives(978, "days(2); told(0, 2)").gives(1, "days(1); count(2)");
        due.part("terms 2, what is wet today is YESTERDAY at its end");
        fresh().with("rule(0, 100); rule(1, 0); butt(3, 9, 0)").gives(1, "days(1); count(6)", "days(2)", "days(3); count(6)").gives(0, "days(2); count(6)");
    }

    /** Into the next one by numbers, of the last one down the drain; RIMMED ones get what runs over too. */
    private static void runsOver() {
        due.part("terms 2, what runs over");
        Script s = fresh().with("butt(3, 10, 0); butt(0, 10, 0); butt(3, 10, 0); butt(3, 10, 0)");
        // 90 fall into the second: 10, 10, 10 stay, 60 run down the drain; nothing runs into the first.
        s.gives(60, "pourDown(9)", "pourDown(9); gallons(1)").gives(0, "pourDown(9); told(0, 2)").gives(90, "pourDown(9); gallons(0)").gives(30, "pourDown(9); gallons(4)");
        s.gives(90, "pourDown(9); pourDown(9)").gives(150, "pourDown(9); pourDown(9); gallons(1)").gives(0, "pourDown(3)").gives(10, "pourDown(4); told(3, 2)", "pourDown(4)");
        due.part("terms 2, what runs over is not FALLEN again");
        fresh().with("butt(0, 1, 0); butt(0, 1, 0); butt(0, 1, 0)").gives(27, "pourDown(1)").gives(30, "pourDown(1); gallons(0)").gives(3, "pourDown(1); gallons(4)");
        due.part("terms 2, a TAP keeps no rain out");
        fresh().with("butt(0, 10, 999)").gives(10, "pourDown(1); told(0, 2)").gives(0, "pourDown(1); told(0, 4)", "pourDown(1); dryBy()");
        due.part("terms 2, catch sees what each HOLDS ahead of the rain");
        s = fresh().with("butt(0, 10, 0); butt(0, 100, 0); set(0, 2, 10); set(1, 2, 7)").text("catch h");
        s.gives(24, "pourDown(0); told(1, 2)").gives(17, "pourDown(0); gallons(0)").gives(58, "pourDown(0); pourDown(0); told(1, 2)");
    }

    /** BEDS by numbers, from BUTTS by numbers, of each what it HOLDS above its TAP. */
    private static void eveningByNumbers() {
        due.part("terms 2, the evening");
        Script s = dry().with("butt(1, 50, 10); butt(1, 50, 0); butt(1, 50, 50); set(0, 2, 15); set(1, 2, 7); set(2, 2, 50); bed(6); bed(0); bed(4); bed(5)").with("days(1)");
        s.tells(6, "bedTold(0, 1)").tells(0, "bedTold(1, 1)", "bedTold(1, 2)", "bedTold(0, 2)", "bedTold(2, 2)").tells(4, "bedTold(2, 1)").tells(2, "bedTold(3, 1)").tells(3, "bedTold(3, 2)");
        s.tells(10, "told(0, 2)").tells(0, "told(1, 2)", "gallons(3)").tells(50, "told(2, 2)").tells(12, "gallons(5)").tells(3, "gallons(6)");
        due.part("terms 2, the meter");
        s.with("rule(2, 1); days(1)").tells(12, "bedTold(0, 1)").tells(3, "gallons(6)").tells(15, "gallons(3)").tells(27, "gallons(5)").tells(60, "gallons(4)");
        s.with("rule(2, 0); days(1)").tells(12, "bedTold(0, 1)").tells(18, "gallons(6)").tells(15, "gallons(3)", "fine()");
    }

    /** One draw on a dry day, two on a wet one, three for a BUTT, none for anything else. */
    private static void draws() {
        due.part("terms 2, draws");
        int one = Due.nextZ(1);
        int two = Due.nextZ(one);
        Script s = fresh().gives(1, "butt(0, 9, 0); bed(1); pourDown(9); count(10)", "keep(); back(); count(10)", "rule(0, 9); count(10)", "sheet(0, 0, 1); lay(0, 2, 0); count(10)");
        s.gives(one, "rule(0, 0); days(1); count(10)").gives(two, "rule(0, 100); days(1); count(10)", "rule(0, 0); days(2); count(10)").gives(Due.nextZ(two), "deal(1); count(10)");
        s.gives(one, "butt(0, 9, 0); rule(0, 0); days(1); count(10)", "deal(1); seed(1); rule(0, 0); days(1); count(10)");
        s.gives(12345, "seed(0); rule(0, 0); days(1); count(10)").gives(1103515245 + 12345, "rule(0, 0); days(1); count(10)").gives(12345 - 1103515245, "seed(-1); rule(0, 0); days(1); count(10)");
    }

    /** Without the bound of THE DAY, in every call that only thinks. */
    private static void thoughtBeyondTheLastDay() {
        due.part("terms 3, beyond the last day");
        Script s = Gardens.onDay(due, 9999).with("butt(0, 500, 0); set(0, 2, 500); bed(50); sheet(0, 1, 4)").text("dry (d>9999)*100");
        // 500, 450 on day 10000; then 100 are lost and 50 drawn each day: 300, 150, 0.
        s.tells(450, "behind(1, 0)").tells(300, "behind(2, 0)").tells(0, "behind(4, 0)", "behind(4, 1)").tells(50, "behind(5, 1)").tells(4, "dryBy()");
        s.with("mark(0, 0, 500); mark(0, 1, 450); mark(0, 2, 300); mark(0, 3, 150)").tells(0, "gauged(0, 0, 0)", "gauged(0, 0, 1)");
        s.with("mark(0, 2, 400); mark(0, 3, 350)").tells(1, "gauged(0, 0, 0)").tells(0, "gauged(0, 0, 1)").with("mark(0, 2, 350); mark(0, 3, 250)").tells(5, "gauged(0, 0, 0)");
        s.tells(2800, "behind(60, 1)").tells(500, "larger(0, 1800, 40)").tells(NONE, "larger(0, 1799, 40)");
        s.tells(200, "spares(0, 4)", "spares(0, 60)").tells(0, "taps(60)", "leave(60, 0)", "leave(60, 1)").tells(9999, "count(2)").tells(0, "days(1)");
    }

    /** What is thought goes by the TEXTS that count now. */
    private static void thoughtByTexts() {
        due.part("terms 3, by texts");
        Script s = dry().with("butt(0, 100, 0); bed(10)").text("catch 5").text("dry 0");
        s.tells(0, "behind(9, 0)").tells(45, "behind(9, 1)").tells(0, "dryBy()").tells(100, "larger(0, 45, 9)").tells(NONE, "larger(0, 44, 9)").tells(45, "spares(0, 9)");
        s.text("catch 15").tells(45, "behind(9, 0)").tells(0, "behind(9, 1)").tells(90, "spares(0, 9)").gives(60, "set(0, 2, 60); behind(0, 0)").tells(80, "behind(16, 0)");
        s.text("catch 0").tells(90, "behind(9, 1)").tells(0, "behind(9, 0)").gives(1, "set(0, 2, 5); dryBy()");
    }

    /** A larger ROOM holds no more at first; the others, and what ran over till now, stay as they are. */
    private static void largerHoldsWhatItHolds() {
        due.part("terms 3, larger");
        Script s = dry().with("butt(1, 10, 0); set(0, 2, 10); butt(1, 10, 0); set(1, 2, 10); bed(15)");
        s.tells(10, "larger(0, 0, 1)", "larger(1, 10, 2)").tells(NONE, "larger(0, 9, 2)", "larger(1, 9, 2)");
        due.part("terms 3, larger by what runs over");
        // Each day 20 come to the first, 5 to the second: with 10 and 10 15 run on and 10 down the drain.
        s = dry().with("butt(0, 10, 0); butt(3, 10, 0); bed(50)").text("catch 20").text("dry 0");
        s.tells(10, "larger(0, 60, 2)", "larger(1, 60, 2)").tells(NONE, "larger(0, 59, 2)").with("wants(0, 5)").tells(10, "larger(0, 0, 2)");
        s.text("catch (s<100)*20").tells(10, "larger(0, 0, 40)").with("wants(0, 25)").tells(NONE, "larger(0, 199, 40)").tells(10, "larger(0, 200, 40)");
    }

    // ---- Terms 4, 5

    /** Blanks may stand between words and signs and at the ends; a word right behind another one needs one. */
    private static void textsAndWords() {
        String[] sound = {"fine b", " fine b ", "fine  b", "fine(b)", "fine !b", "fine!b", "fine 1*( b - l )/2", "fine ! ! b"};
        for (String text : sound) {
            due.part("terms 4, '" + text + "'");
            fresh().tape(text).gives(0, "text()").gives(1, "text(); count(7)").gives(0, "text(); count(9)");
        }
        String[] faulty = {"fineb", "fine1", "fine 1b", "fine b1", "fine b b", "fine 1 1", "fi ne b", "fine b\n", "fine\tb", "fine b,l", "fine {b}", "fine [b", "fine b^2", "fine 1.5", "fine \"b\"", "fine 'b'"};
        int[] places = {0, 4, 6, 6, 7, 7, 0, 6, 4, 6, 5, 5, 6, 6, 5, 5};
        for (int i = 0; i < faulty.length; i++) {
            due.part("terms 4, '" + faulty[i] + "'");
            fresh().tape(faulty[i]).tells(-100 - places[i], "text()").gives(0, "text(); count(7)", "text(); count(9)");
        }
        due.part("terms 4, the first fault of several");
        fresh().tape("fine b) + 12345 $").tells(-106, "text()");
        fresh().tape("fine 12345 + q").tells(-105, "text()");
        fresh().tape("fine (((((((((12345").tells(-113, "text()");
        fresh().tape("fine ((((((((12345").tells(-113, "text()");
        fresh().tape("fine (b + l").tells(-111, "text()");
    }

    /** Of each KEY that TEXT counts that was told last; one of another KEY does not touch it. */
    private static void textsOfKeysApart() {
        due.part("terms 4, keys apart");
        Script s = dry().with("butt(0, 100, 0); set(0, 2, 60); bed(80); rule(2, 1)").text("catch 6").text("dry 7").text("fine 8");
        s.tells(6, "catches(0, 3)").tells(7, "told(0, 5)").tells(8, "fine()").tells(0, "why(0)").tells(1, "why(1)").tells(2, "why(2)");
        s.text("dry 9").tells(6, "catches(0, 3)").tells(9, "told(0, 5)").tells(8, "fine()").tells(0, "why(0)").tells(3, "why(1)").tells(2, "why(2)").tells(4, "count(7)");
        s.text("catch 1").text("fine 2").tells(1, "catches(0, 3)").tells(9, "told(0, 5)").tells(2, "fine()").tells(4, "why(0)").tells(3, "why(1)").tells(5, "why(2)");
        due.part("terms 4, without a text of that key");
        s = dry().with("butt(0, 100, 0); set(0, 2, 60); bed(80); rule(2, 1)");
        s.text("catch 6").tells(2, "told(0, 5)").gives(16, "days(1); fine()").text("dry 60").tells(6, "catches(0, 0)").gives(74, "days(1); fine()");
    }

    /** NAMES: the same letter is another thing with another KEY, and each is as it is when it is asked. */
    private static void namesInDays() {
        due.part("terms 4, names");
        Script s = dry().with("butt(0, 300, 0); set(0, 2, 20); days(3); set(0, 2, 20); rule(2, 1); bed(0)");
        s.text("catch r*100+s+h").tells(320, "catches(0, 0)").tells(999, "catches(0, 9)").tells(720, "catches(0, 4)");
        s.text("dry d").tells(3, "told(0, 5)").text("dry h-d").tells(17, "told(0, 5)").text("dry s/100+d").tells(6, "told(0, 5)");
        s.text("fine b*1000+l").tells(0, "fine()").with("set(0, 3, 999); wants(0, 4); days(1)").tells(4000, "fine()").with("rule(2, 0); days(2)").tells(4008, "fine()");
        due.part("terms 4, lacked of all beds");
        dry().with("bed(1); bed(20); bed(30); days(2)").text("fine l").tells(102, "fine()");
    }

    private static void sheetsApart() {
        due.part("terms 5, sheets apart");
        Script s = fresh();
        for (int sheet = 0; sheet < 4; sheet++) {
            s.with("sheet(" + sheet + ", " + sheet % 2 + ", " + (sheet + 2) + "); mark(" + sheet + ", 0, " + (sheet + 50) + ")");
        }
        for (int sheet = 0; sheet < 4; sheet++) {
            String laid = "lay(0, 2, " + sheet + "); item(0, ";
            s.gives(sheet + 50, laid + "0)").gives(0, laid + (sheet + 1) + ")").gives(INDEX, laid + (sheet + 2) + ")");
            for (int other = 0; other < 4; other++) {
                if (other != sheet) {
                    s.gives(sheet + 50, "sheet(" + other + ", -1, 0); " + laid + "0)", "mark(" + other + ", 0, 9); " + laid + "0)", "sheet(" + other + ", 1, 24); " + laid + "0)");
                }
            }
        }
        due.part("terms 5, a sheet becomes one of another sort, of another length");
        s = fresh().with("sheet(0, 0, 3); mark(0, 2, 40000); sheet(0, 1, 3)");
        s.gives(40000, "mark(0, 2, 40000); lay(0, 2, 0); item(0, 2)").gives(0, "lay(0, 2, 0); item(0, 2)").gives(KIND, "mark(0, 2, NONE); lay(0, 2, 0); item(0, 2)");
        s.with("mark(0, 2, NONE); sheet(0, 0, 3)").gives(0, "lay(0, 2, 0); item(0, 2)").gives(-25536, "mark(0, 2, 40000); lay(0, 2, 0); item(0, 2)").tells(KIND, "mark(0, 2, NONE)");
    }

    /** A SLOT's BUTT is as it was, for good: no day, no image, no BUTT of its number changes it. */
    private static void slotsAndImages() {
        due.part("terms 5, slots for good");
        Script s = dry().with("butt(5, 100, 0); set(0, 2, 60); keep(); lay(0, 1, 0)").tells(60, "ask(0, 5)", "ask(0, 0)");
        s.gives(60, "days(9); ask(0, 5)", "set(0, 2, 1); ask(0, 5)", "set(0, 2, 1); back(); ask(0, 5)", "turns(0, 1); ask(0, 5)", "pourDown(9); ask(0, 5)", "set(0, 2, 1); keep(); ask(0, 5)");
        s.gives(KIND, "turns(0, 1); ask(0, 1)").gives(109, "turns(0, 1); lay(0, 1, 0); ask(0, 1)").gives(1, "set(0, 2, 1); lay(0, 1, 0); back(); ask(0, 5)");
        due.part("terms 5, what a slot held is gone");
        s.gives(NOTHING, "lay(0, 0, 0); ask(0, 5)", "lay(0, 0, 0); item(0, 0)", "lay(0, 0, 0); rest(0, 1)").gives(KIND, "lay(0, 3, 9); ask(0, 5)", "sheet(1, 0, 1); lay(0, 2, 1); ask(0, 5)", "sheet(1, 0, 1); lay(0, 2, 1); rest(0, 1)");
        s.gives(0, "sheet(1, 0, 1); lay(0, 2, 1); item(0, 0)", "lay(0, 3, 9); rest(0, 3)").gives(60, "lay(0, 3, 9); lay(0, 1, 0); ask(0, 5)");
        due.part("terms 5, five slots");
        s = fresh().with("sheet(3, 1, 1); lay(0, 3, 10); lay(1, 3, 11); lay(2, 3, 12); lay(3, 3, 13); lay(4, 3, 14)");
        for (int slot = 0; slot < 5; slot++) {
            s.tells(10 + slot, "rest(" + slot + ", 100)").tells(BAD, "rest(5, 100)").gives(3, "lay(" + slot + ", 2, 3)").gives(0, "lay(" + slot + ", 2, 3); item(" + slot + ", 0)");
            s.gives(10 + slot, "lay(" + (slot + 1) % 5 + ", 0, 0); rest(" + slot + ", 100)");
        }
    }

    /** AN IMAGE keeps all but SHEETS, SLOTS, numbers that wait, THE TAPE: each by itself. */
    private static void imageKeeps() {
        due.part("terms 5, what an image keeps");
        Script s = dry().with("butt(2, 100, 7); set(0, 2, 60); bed(9); rule(2, 1); rule(3, 1); seed(44)").text("fine 3").with("keep()");
        String[] changes = {"turns(0, 5)", "set(0, 1, 200)", "set(0, 2, 10)", "set(0, 3, 50)", "butt(0, 1, 0)", "deal(2)", "bed(3)", "wants(0, 1)", "seed(9)", "rule(0, 5)",
            "rule(1, 5)", "rule(2, 0)", "rule(3, 0)", "days(1)", "days(100)", "pourDown(9)"};
        for (String change : changes) {
            String back = change + "; back(); ";
            s.gives(2, back + "told(0, 0)").gives(100, back + "told(0, 1)").gives(60, back + "told(0, 2)").gives(7, back + "told(0, 3)").gives(1, back + "count(0)", back + "count(1)", back + "count(5)", back + "count(6)", back + "count(7)");
            s.gives(9, back + "bedTold(0, 0)").gives(0, back + "bedTold(0, 1)", back + "bedTold(0, 2)", back + "count(2)", back + "count(3)", back + "count(4)").gives(44, back + "count(10)").gives(3, back + "fine()");
            s.gives(0, back + "gallons(0)", back + "gallons(1)", back + "gallons(2)", back + "gallons(3)").gives(1, back + "back()");
        }
        due.part("terms 5, what an image does not keep");
        s.gives(5, "sheet(0, 0, 1); mark(0, 0, 5); back(); lay(0, 2, 0); item(0, 0)", "lay(0, 3, 5); back(); rest(0, 9)").gives(2, "tell(1); back(); tell(1)").gives(12, "feed(0, 0, 0); back(); count(9)");
        s.gives(NOTHING, "sheet(0, 0, 1); keep(); sheet(0, -1, 0); back(); reads(0)", "lay(0, 3, 5); keep(); lay(0, 0, 0); back(); rest(0, 9)");
        s.gives(0, "tell(1); keep(); check(1); back(); count(8)", "feed(0, 0, 0); keep(); trim(0); back(); count(9)");
    }

    private static void tapeAndImage() {
        due.part("terms 4 and 5, a tape outlives back()");
        dry().with("keep()").text("fine 1").tape("fine 2").with("back()").gives(0, "text()").gives(2, "text(); fine()").gives(1, "text(); count(7)");
        due.part("terms 4 and 5, texts of an image");
        Script s = dry().text("fine 1").with("keep()").text("fine 2").text("dry 5").with("back()").tells(1, "fine()", "count(7)").tells(NONE, "why(1)").tells(BAD, "textTold(1, 0)");
        s.text("catch 4").tells(1, "why(0)").tells(0, "textTold(1, 0)").gives(NONE, "back(); why(0)").gives(0, "back(); why(2)");
    }

    /** Two by two: what all BUTTS HOLD, LACKED of all BEDS, behind each DAY, by THE IMAGE. */
    private static void daysTold() {
        due.part("terms 5, the days told");
        Script s = dry().with("butt(1, 90, 5); butt(1, 90, 0); set(0, 2, 25); set(1, 2, 40); bed(12); bed(13); keep()");
        // 25 are wanted each day, 60 can be drawn.
        s.with("tell(40); tell(0); tell(15); tell(0); tell(5); tell(15); tell(5); tell(40)").tells(0, "check(4)").tells(7, "check(3)").tells(9, "check(5)", "check(30)");
        s.gives(0, "days(3); check(4)", "rule(2, 1); check(4)", "seed(9); rule(0, 100); check(4)", "butt(0, 9, 0); bed(9); check(4)").gives(1, "days(3); keep(); check(4)", "rule(2, 1); days(1); keep(); check(1)");
        s.gives(4, "days(1); days(1); keep(); check(0); tell(5); tell(15); tell(5); check(2)").gives(0, "days(2); keep(); check(0); tell(5); tell(15); tell(5); tell(40); check(2)");
        due.part("terms 5, the days told with a meter");
        dry().with("bed(12); rule(2, 1); keep(); tell(0); tell(0); tell(0); tell(0)").tells(0, "check(2)").tells(3, "check(1)").gives(5, "check(3)");
    }
}
