/** For each promise of the document: ordinary inputs, the edges that it names, and wrong inputs. */
public final class PromiseTest {
    private static final int BAD = WaterButts.BAD, NO = WaterButts.NO, FULL = WaterButts.FULL, NONE = WaterButts.NONE,
        NOTHING = WaterButts.NOTHING, KIND = WaterButts.KIND, INDEX = WaterButts.INDEX, SIZE = WaterButts.SIZE;
    private static final int LEAST = Integer.MIN_VALUE, MOST = Integer.MAX_VALUE;

    private static final Due due = new Due();
    private static WaterButts x;

    public static void main(String[] args) {
        newObject();
        butts();
        beds();
        lots();
        daysPass();
        thoughts();
        gauges();
        textsAreRead();
        textsAreFaulty();
        textsCount();
        sheets();
        slots();
        rowsAndImages();
        due.end();
    }

    private static void fresh(String part) {
        due.part(part);
        x = new WaterButts();
    }

    /** No rain from now on. */
    private static void dryWeather() {
        x.rule(0, 0);
        x.rule(1, 0);
        x.rule(3, 0);
    }

    private static void newObject() {
        fresh("promise 1");
        int[] first = {0, 0, 0, 30, 60, 0, 0, 0, 0, 0, 1};
        for (int i = 0; i < first.length; i++) {
            due.is("count(" + i + ")", x.count(i), first[i]);
        }
        for (int i = 0; i < 7; i++) {
            due.is("gallons(" + i + ")", x.gallons(i), 0);
        }
        for (int i = 0; i < 4; i++) {
            due.is("reads(" + i + ")", x.reads(i), NOTHING);
        }
        for (int i = 0; i < 5; i++) {
            due.is("item(" + i + ", 0)", x.item(i, 0), NOTHING);
        }
        for (int i = 0; i < 3; i++) {
            due.is("why(" + i + ")", x.why(i), NONE);
        }
        due.is("told(0, 0)", x.told(0, 0), BAD);
        due.is("bedTold(0, 0)", x.bedTold(0, 0), BAD);
        due.is("back()", x.back(), NO);
        due.is("fine()", x.fine(), 0);
    }

    private static void butts() {
        fresh("promise 2");
        due.is("butt(-1, 1, 0)", x.butt(-1, 1, 0), BAD);
        due.is("butt(6, 1, 0)", x.butt(6, 1, 0), BAD);
        due.is("butt(0, 0, 0)", x.butt(0, 0, 0), BAD);
        due.is("butt(0, 1000, 0)", x.butt(0, 1000, 0), BAD);
        due.is("butt(0, 1, -1)", x.butt(0, 1, -1), BAD);
        due.is("butt(0, 1, 1000)", x.butt(0, 1, 1000), BAD);
        due.is("count(0)", x.count(0), 0);
        due.is("butt(5, 999, 999)", x.butt(5, 999, 999), 0);
        for (int i = 1; i < 8; i++) {
            due.is("butt(0, 1, 0)", x.butt(0, 1, 0), i);
        }
        due.is("butt(0, 1, 0), the ninth", x.butt(0, 1, 0), FULL);
        due.is("butt(6, 1, 0), the ninth", x.butt(6, 1, 0), BAD);
        due.is("count(0)", x.count(0), 8);

        fresh("promise 3");
        x.butt(2, 120, 30);
        x.set(0, 2, 101);
        int[] flushed = {2, 120, 101, 30, 71, 3, 879};
        for (int i = 0; i < 7; i++) {
            due.is("told(0, " + i + ")", x.told(0, i), flushed[i]);
        }
        due.is("told(0, -1)", x.told(0, -1), BAD);
        due.is("told(0, 7)", x.told(0, 7), BAD);
        due.is("told(1, 0)", x.told(1, 0), BAD);
        due.is("told(-1, 0)", x.told(-1, 0), BAD);
        x.set(0, 3, 101);
        due.is("told(0, 4), as high as it holds", x.told(0, 4), 0);
        x.set(0, 3, 102);
        due.is("told(0, 4), above what it holds", x.told(0, 4), 0);
        x.set(0, 2, 0);
        due.is("told(0, 5), empty", x.told(0, 5), 0);
        x.set(0, 2, 1);
        due.is("told(0, 5), of 1", x.told(0, 5), 1);
        x.set(0, 2, 99);
        int[] loses = {2, 0, 2, 0, 2, 1};
        int[] worth = {120, 129, 879, 258, 872, 99};
        for (int kind = 0; kind < 6; kind++) {
            x.turns(0, kind);
            due.is("told(0, 5) of kind " + kind, x.told(0, 5), loses[kind]);
            due.is("told(0, 6) of kind " + kind, x.told(0, 6), worth[kind]);
        }
        x.set(0, 1, 999);
        x.turns(0, 4);
        due.is("told(0, 6) of the largest flap", x.told(0, 6), -7);

        fresh("promise 4");
        x.butt(0, 40, 0);
        int[][] caught = {{0, 10, 90}, {0, 5, 45}, {0, 5, 85}, {0, 0, 0}, {0, 0, 80}, {0, 20, 180}};
        for (int kind = 0; kind < 6; kind++) {
            x.turns(0, kind);
            due.is("catches(0, 0) of kind " + kind, x.catches(0, 0), caught[kind][0]);
            due.is("catches(0, 1) of kind " + kind, x.catches(0, 1), caught[kind][1]);
            due.is("catches(0, 9) of kind " + kind, x.catches(0, 9), caught[kind][2]);
        }
        due.is("catches(0, -1)", x.catches(0, -1), BAD);
        due.is("catches(0, 10)", x.catches(0, 10), BAD);
        due.is("catches(1, 1)", x.catches(1, 1), BAD);
        due.is("told(0, 2)", x.told(0, 2), 0);
        Due.text(x, "catch r*s+h");
        x.set(0, 2, 9);
        int[] byText = {89, 44, 84, 0, 79, 178};
        for (int kind = 0; kind < 6; kind++) {
            x.turns(0, kind);
            due.is("catches(0, 2) by a text of kind " + kind, x.catches(0, 2), byText[kind]);
        }
        Due.text(x, "catch r*500");
        int[] most = {999, 499, 994, 0, 989, 1998};
        for (int kind = 0; kind < 6; kind++) {
            x.turns(0, kind);
            due.is("catches(0, 2) by a large text of kind " + kind, x.catches(0, 2), most[kind]);
        }
        Due.text(x, "catch 3-r");
        int[] least = {0, 0, 0, 0, 0, 0};
        for (int kind = 0; kind < 6; kind++) {
            x.turns(0, kind);
            due.is("catches(0, 9) below 0 of kind " + kind, x.catches(0, 9), least[kind]);
        }

        fresh("promise 5");
        boolean[][] of = {
            {true, false, false, false, false, false},
            {true, true, false, false, false, false},
            {true, false, true, false, false, false},
            {true, true, false, true, false, false},
            {true, false, true, false, true, false},
            {true, false, false, false, false, true}};
        for (int kind = 0; kind < 6; kind++) {
            x.butt(kind, 10 + kind, 0);
            for (int k = 0; k < 6; k++) {
                due.is("as(" + kind + ", " + k + ")", x.as(kind, k), of[kind][k] ? 10 + kind : KIND);
            }
        }
        due.is("as(6, 0)", x.as(6, 0), BAD);
        due.is("as(0, 6)", x.as(0, 6), BAD);
        due.is("as(0, -1)", x.as(0, -1), BAD);
        due.is("as(-1, 0)", x.as(-1, 0), BAD);

        fresh("promise 6");
        x.butt(1, 70, 4);
        x.set(0, 2, 60);
        due.is("turns(0, 5)", x.turns(0, 5), 1);
        due.is("turns(0, 5) again", x.turns(0, 5), 5);
        due.is("told(0, 0)", x.told(0, 0), 5);
        due.is("told(0, 1)", x.told(0, 1), 70);
        due.is("told(0, 2)", x.told(0, 2), 60);
        due.is("told(0, 3)", x.told(0, 3), 4);
        due.is("turns(0, 6)", x.turns(0, 6), BAD);
        due.is("turns(0, -1)", x.turns(0, -1), BAD);
        due.is("turns(1, 0)", x.turns(1, 0), BAD);
        due.is("told(0, 0)", x.told(0, 0), 5);

        fresh("promise 7");
        x.butt(0, 50, 6);
        due.is("set(0, 2, 50)", x.set(0, 2, 50), 0);
        due.is("set(0, 2, 51)", x.set(0, 2, 51), BAD);
        due.is("set(0, 2, -1)", x.set(0, 2, -1), BAD);
        due.is("set(0, 1, 49)", x.set(0, 1, 49), BAD);
        due.is("set(0, 1, 50)", x.set(0, 1, 50), 50);
        due.is("set(0, 1, 999)", x.set(0, 1, 999), 50);
        due.is("set(0, 1, 1000)", x.set(0, 1, 1000), BAD);
        due.is("set(0, 2, 0)", x.set(0, 2, 0), 50);
        due.is("set(0, 1, 0)", x.set(0, 1, 0), BAD);
        due.is("set(0, 1, 1)", x.set(0, 1, 1), 999);
        due.is("set(0, 3, 999)", x.set(0, 3, 999), 6);
        due.is("set(0, 3, 1000)", x.set(0, 3, 1000), BAD);
        due.is("set(0, 3, -1)", x.set(0, 3, -1), BAD);
        due.is("set(0, 3, 0)", x.set(0, 3, 0), 999);
        due.is("set(0, 0, 1)", x.set(0, 0, 1), BAD);
        due.is("set(0, 4, 1)", x.set(0, 4, 1), BAD);
        due.is("set(1, 1, 1)", x.set(1, 1, 1), BAD);
        due.is("told(0, 1)", x.told(0, 1), 1);
    }

    private static void beds() {
        fresh("promise 8");
        due.is("bed(-1)", x.bed(-1), BAD);
        due.is("bed(100)", x.bed(100), BAD);
        due.is("bed(99)", x.bed(99), 0);
        for (int i = 1; i < 8; i++) {
            due.is("bed(0)", x.bed(0), i);
        }
        due.is("bed(0), the ninth", x.bed(0), FULL);
        due.is("bed(100), the ninth", x.bed(100), BAD);
        due.is("count(1)", x.count(1), 8);

        fresh("promise 9");
        dryWeather();
        x.butt(1, 30, 0);
        x.set(0, 2, 10);
        x.bed(7);
        x.bed(5);
        x.days(1);
        int[][] told = {{7, 7, 0}, {5, 3, 2}};
        for (int bed = 0; bed < 2; bed++) {
            for (int what = 0; what < 3; what++) {
                due.is("bedTold(" + bed + ", " + what + ")", x.bedTold(bed, what), told[bed][what]);
            }
        }
        due.is("bedTold(0, 3)", x.bedTold(0, 3), BAD);
        due.is("bedTold(0, -1)", x.bedTold(0, -1), BAD);
        due.is("bedTold(2, 0)", x.bedTold(2, 0), BAD);
        due.is("bedTold(-1, 0)", x.bedTold(-1, 0), BAD);

        fresh("promise 10");
        x.bed(3);
        due.is("wants(0, 99)", x.wants(0, 99), 3);
        due.is("wants(0, 0)", x.wants(0, 0), 99);
        due.is("wants(0, 100)", x.wants(0, 100), BAD);
        due.is("wants(0, -1)", x.wants(0, -1), BAD);
        due.is("wants(1, 1)", x.wants(1, 1), BAD);
        due.is("bedTold(0, 0)", x.bedTold(0, 0), 0);
    }

    private static void lots() {
        fresh("promise 11");
        due.is("deal(0)", x.deal(0), BAD);
        due.is("deal(9)", x.deal(9), BAD);
        due.is("count(10)", x.count(10), 1);
        x.seed(-77);
        x.butt(3, 9, 9);
        due.is("deal(2)", x.deal(2), 2);
        int z = -77;
        for (int i = 1; i < 3; i++) {
            z = Due.nextZ(z);
            due.is("told(" + i + ", 0)", x.told(i, 0), Due.drawOf(z) % 6);
            z = Due.nextZ(z);
            due.is("told(" + i + ", 1)", x.told(i, 1), 1 + Due.drawOf(z) % 200);
            z = Due.nextZ(z);
            due.is("told(" + i + ", 3)", x.told(i, 3), Due.drawOf(z) % 10);
            due.is("told(" + i + ", 2)", x.told(i, 2), 0);
        }
        due.is("count(10)", x.count(10), z);
        due.is("deal(8)", x.deal(8), 5);
        for (int i = 0; i < 15; i++) {
            z = Due.nextZ(z);
        }
        due.is("count(10), no draws for others", x.count(10), z);
        due.is("deal(1), no room", x.deal(1), 0);
        due.is("count(10)", x.count(10), z);

        fresh("promise 12");
        due.is("seed(-5)", x.seed(-5), 1);
        due.is("seed(7)", x.seed(LEAST), -5);
        due.is("count(10)", x.count(10), LEAST);
    }

    private static void daysPass() {
        fresh("promise 13");
        due.is("rule(0, 100)", x.rule(0, 100), 30);
        due.is("rule(0, 0)", x.rule(0, 0), 100);
        due.is("rule(1, 100)", x.rule(1, 100), 60);
        due.is("rule(1, 101)", x.rule(1, 101), BAD);
        due.is("rule(0, -1)", x.rule(0, -1), BAD);
        due.is("rule(2, 1)", x.rule(2, 1), 0);
        due.is("rule(2, 0)", x.rule(2, 0), 1);
        due.is("rule(2, 2)", x.rule(2, 2), BAD);
        due.is("rule(3, 1)", x.rule(3, 1), 0);
        due.is("rule(3, 1)", x.rule(3, 1), 1);
        due.is("rule(3, 2)", x.rule(3, 2), BAD);
        due.is("rule(3, -1)", x.rule(3, -1), BAD);
        due.is("rule(4, 0)", x.rule(4, 0), BAD);
        due.is("rule(-1, 0)", x.rule(-1, 0), BAD);
        due.is("count(3)", x.count(3), 0);
        due.is("count(4)", x.count(4), 100);
        due.is("count(6)", x.count(6), 1);

        daysByLot();
        evenings();
        fresh("promise 14, the last day");
        dryWeather();
        for (int i = 0; i < 99; i++) {
            x.days(100);
        }
        x.days(90);
        due.is("count(2)", x.count(2), 9990);
        x.rule(0, 100);
        x.rule(1, 100);
        due.is("days(10)", x.days(10), 9);
        due.is("count(2)", x.count(2), 9999);
        int z = x.count(10);
        due.is("days(1)", x.days(1), 0);
        due.is("days(0)", x.days(0), BAD);
        due.is("count(10)", x.count(10), z);
        due.is("count(2)", x.count(2), 9999);

        fresh("promise 15");
        due.is("gallons(-1)", x.gallons(-1), BAD);
        due.is("gallons(7)", x.gallons(7), BAD);
        dryWeather();
        x.rule(2, 1);
        x.butt(0, 100, 95);
        x.butt(1, 50, 20);
        x.set(0, 2, 98);
        x.set(1, 2, 25);
        x.bed(6);
        x.bed(4);
        x.pourDown(4);
        // The BUTT gets 40 (98 + 40: 38 run over), the LIDDED one 20 and 38 (83: 33 down the drain).
        int[] afterRain = {60, 33, 0, 0, 150, 0, 0};
        for (int i = 0; i < 7; i++) {
            due.is("gallons(" + i + ")", x.gallons(i), afterRain[i]);
        }
        x.days(1);
        // 100 loses 3: 97, 2 of it above the tap; the first bed draws 2 and 4, the second 4.
        int[] afterDay = {60, 33, 3, 0, 137, 10, 0};
        for (int i = 0; i < 7; i++) {
            due.is("gallons(" + i + ")", x.gallons(i), afterDay[i]);
        }
        x.set(1, 2, 21);
        x.days(1);
        // 95 loses 2; 1 can be drawn: 5 and 4 are bought.
        int[] bought = {60, 33, 5, 9, 113, 20, 0};
        for (int i = 0; i < 7; i++) {
            due.is("gallons(" + i + ")", x.gallons(i), bought[i]);
        }
        x.rule(2, 0);
        x.days(1);
        due.is("gallons(3), without a meter", x.gallons(3), 9);
        due.is("gallons(5), without a meter", x.gallons(5), 20);
        due.is("gallons(6), without a meter", x.gallons(6), 10);

        fresh("promise 16");
        due.is("pourDown(9), no butts", x.pourDown(9), 0);
        x.butt(5, 10, 0);
        x.butt(3, 15, 0);
        x.butt(4, 7, 0);
        due.is("pourDown(1)", x.pourDown(1), 0);
        due.is("told(0, 2)", x.told(0, 2), 10);
        due.is("told(1, 2)", x.told(1, 2), 10);
        due.is("told(2, 2)", x.told(2, 2), 0);
        due.is("pourDown(2)", x.pourDown(2), 38);
        due.is("told(1, 2)", x.told(1, 2), 15);
        due.is("told(2, 2)", x.told(2, 2), 7);
        due.is("pourDown(0)", x.pourDown(0), 0);
        due.is("gallons(0)", x.gallons(0), 70);
        due.is("gallons(1)", x.gallons(1), 38);
        due.is("count(2)", x.count(2), 0);
        due.is("count(6)", x.count(6), 0);
        due.is("count(10)", x.count(10), 1);
        due.is("pourDown(-1)", x.pourDown(-1), BAD);
        due.is("pourDown(10)", x.pourDown(10), BAD);
        Due.text(x, "catch h");
        x.set(0, 2, 4);
        // The tank catches 8 of what it holds: 2 run over. The others hold what they hold, then get it.
        due.is("pourDown(0), by what is held", x.pourDown(0), 2);
        due.is("told(0, 2)", x.told(0, 2), 10);
    }

    private static void daysByLot() {
        fresh("promise 14");
        due.is("days(101)", x.days(101), BAD);
        due.is("days(-1)", x.days(-1), BAD);
        x.butt(0, 999, 0);
        x.seed(12345);
        x.rule(0, 40);
        x.rule(1, 70);
        int z = 12345;
        boolean wet = false;
        int wetDays = 0;
        int fallen = 0;
        for (int day = 0; day < 100; day++) {
            z = Due.nextZ(z);
            wet = Due.drawOf(z) % 100 < (wet ? 70 : 40);
            if (wet) {
                wetDays++;
                z = Due.nextZ(z);
                fallen += 10 * (1 + Due.drawOf(z) % 9);
            }
        }
        due.is("days(100)", x.days(100), wetDays);
        due.is("gallons(0)", x.gallons(0), fallen);
        due.is("count(10)", x.count(10), z);
        due.is("count(2)", x.count(2), 100);
        due.is("count(6)", x.count(6), wet ? 1 : 0);
    }

    private static void evenings() {
        fresh("promise 14, what is lost before it is drawn");
        dryWeather();
        x.butt(0, 100, 0);
        x.butt(5, 100, 10);
        x.set(0, 2, 8);
        x.set(1, 2, 100);
        x.bed(12);
        x.bed(90);
        x.days(1);
        // 8 loses 1, 100 in a tank half of 3; 7 and 5 for the first, 84 for the second (89 above 10 less 5).
        due.is("told(0, 2)", x.told(0, 2), 0);
        due.is("told(1, 2)", x.told(1, 2), 10);
        due.is("bedTold(0, 1)", x.bedTold(0, 1), 12);
        due.is("bedTold(1, 1)", x.bedTold(1, 1), 84);
        due.is("bedTold(1, 2)", x.bedTold(1, 2), 6);
        due.is("gallons(2)", x.gallons(2), 2);

        fresh("promise 14, laws by texts");
        dryWeather();
        x.butt(0, 100, 0);
        Due.text(x, "catch 20");
        Due.text(x, "dry d*5");
        x.days(1);
        due.is("told(0, 2), a dry day by a law", x.told(0, 2), 20);
        x.days(2);
        due.is("told(0, 2), by the day", x.told(0, 2), 20 + 20 - 5 + 20 - 10);
    }

    private static void thoughts() {
        fresh("promise 17");
        dryWeather();
        x.butt(1, 100, 0);
        x.set(0, 2, 25);
        x.bed(10);
        due.is("behind(0, 0)", x.behind(0, 0), 25);
        due.is("behind(2, 0)", x.behind(2, 0), 5);
        due.is("behind(2, 1)", x.behind(2, 1), 0);
        due.is("behind(4, 1)", x.behind(4, 1), 15);
        due.is("behind(100, 1)", x.behind(100, 1), 975);
        x.rule(2, 1);
        due.is("behind(4, 1)", x.behind(4, 1), 0);
        due.is("behind(4, 2)", x.behind(4, 2), 15);
        x.rule(0, 100);
        x.rule(1, 100);
        Due.text(x, "catch 200");
        due.is("behind(3, 3)", x.behind(3, 3), 25 + 90 + 90);
        due.is("behind(-1, 0)", x.behind(-1, 0), BAD);
        due.is("behind(101, 0)", x.behind(101, 0), BAD);
        due.is("behind(1, -1)", x.behind(1, -1), BAD);
        due.is("behind(1, 4)", x.behind(1, 4), BAD);
        due.is("count(2)", x.count(2), 0);
        due.is("count(10)", x.count(10), 1);
        due.is("count(6)", x.count(6), 0);
        due.is("told(0, 2)", x.told(0, 2), 25);
        due.is("gallons(1)", x.gallons(1), 0);
        due.is("bedTold(0, 1)", x.bedTold(0, 1), 0);
        x.rule(2, 0);
        x.set(0, 2, 0);
        Due.text(x, "catch 0");
        x.days(2);
        due.is("behind(1, 1), with what was lacked already", x.behind(1, 1), 30);

        fresh("promise 17, beyond the last day");
        dryWeather();
        for (int i = 0; i < 100; i++) {
            x.days(100);
        }
        x.bed(1);
        due.is("count(2)", x.count(2), 9999);
        due.is("behind(50, 1)", x.behind(50, 1), 50);
        x.butt(0, 999, 0);
        x.set(0, 2, 999);
        Due.text(x, "dry (d>9999)*100");
        x.wants(0, 0);
        due.is("behind(4, 0), the day goes on", x.behind(4, 0), 999 - 300);

        fresh("promise 18");
        due.is("dryBy(), no butts", x.dryBy(), 0);
        dryWeather();
        x.butt(1, 999, 0);
        due.is("dryBy(), empty", x.dryBy(), 0);
        x.set(0, 2, 300);
        x.bed(1);
        due.is("dryBy(), on the last of them", x.dryBy(), 300);
        x.set(0, 2, 301);
        due.is("dryBy(), one too late", x.dryBy(), NONE);
        x.set(0, 3, 280);
        due.is("dryBy(), by the tap", x.dryBy(), 21);
        x.butt(1, 50, 5);
        x.set(1, 2, 9);
        due.is("dryBy(), of both", x.dryBy(), 25);
        due.is("told(0, 2)", x.told(0, 2), 301);

        fresh("promise 19");
        dryWeather();
        x.rule(0, 100);
        x.rule(1, 0);
        Due.text(x, "catch 400*(r>0)");
        x.butt(1, 15, 0);
        x.bed(40);
        // The first day is wet (200 come), the second dry, the third wet: 80 for the first two.
        x.rule(3, 0);
        due.is("larger(0, 0, 2)", x.larger(0, 0, 2), 85);
        due.is("larger(0, 5, 2)", x.larger(0, 5, 2), 75);
        due.is("larger(0, 4, 2)", x.larger(0, 4, 2), 85);
        due.is("larger(0, 65, 2)", x.larger(0, 65, 2), 15);
        due.is("larger(0, 9999, 40)", x.larger(0, 9999, 40), 15);
        due.is("told(0, 1)", x.told(0, 1), 15);
        due.is("larger(0, -1, 1)", x.larger(0, -1, 1), BAD);
        due.is("larger(0, 10000, 1)", x.larger(0, 10000, 1), BAD);
        due.is("larger(0, 0, 0)", x.larger(0, 0, 0), BAD);
        due.is("larger(0, 0, 41)", x.larger(0, 0, 41), BAD);
        due.is("larger(1, 0, 1)", x.larger(1, 0, 1), BAD);
        due.is("larger(-1, 0, 1)", x.larger(-1, 0, 1), BAD);
        Due.text(x, "catch (s>994)*999");
        due.is("larger(0, 0, 1), the largest by tens", x.larger(0, 0, 1), 995);
        Due.text(x, "catch (s>995)*999");
        due.is("larger(0, 0, 1), none", x.larger(0, 0, 1), NONE);
        x.set(0, 1, 999);
        due.is("larger(0, 0, 1), as it is", x.larger(0, 0, 1), 999);

        fresh("promise 20");
        due.is("leave(1, 0), no beds", x.leave(1, 0), NONE);
        due.is("leave(0, 0), no beds", x.leave(0, 0), BAD);
        due.is("leave(1, 2), no beds", x.leave(1, 2), BAD);
        dryWeather();
        x.butt(1, 100, 0);
        x.set(0, 2, 10);
        x.bed(4);
        x.bed(8);
        x.bed(8);
        // Left: 4 gives 6 lacked, the first 8 gives 2, the second 8 gives 2.
        due.is("leave(1, 0)", x.leave(1, 0), 1);
        due.is("leave(1, 1)", x.leave(1, 1), 2);
        due.is("leave(60, 1)", x.leave(60, 1), 60 * 12 - 10);
        due.is("leave(61, 0)", x.leave(61, 0), BAD);
        due.is("leave(1, -1)", x.leave(1, -1), BAD);
        x.days(3);
        due.is("bedTold(2, 2)", x.bedTold(2, 2), 24);
        x.wants(0, 8);
        // Each lacks 8 more a day; what was lacked by now is left out with the bed: 8, 18, 24.
        due.is("leave(1, 0), with what is lacked already", x.leave(1, 0), 2);
        due.is("leave(1, 1), with what is lacked already", x.leave(1, 1),
            x.bedTold(0, 2) + x.bedTold(1, 2) + 16);
        due.is("bedTold(2, 0)", x.bedTold(2, 0), 8);
        x.wants(0, 99);
        due.is("leave(1, 0), the first", x.leave(1, 0), 0);

        fresh("promise 21");
        dryWeather();
        x.butt(1, 100, 0);
        x.butt(1, 100, 3);
        x.set(0, 2, 10);
        x.set(1, 2, 20);
        x.bed(9);
        due.is("spares(0, 1)", x.spares(0, 1), 0);
        due.is("spares(0, 3)", x.spares(0, 3), 10);
        due.is("spares(1, 3)", x.spares(1, 3), 17);
        due.is("spares(0, 60)", x.spares(0, 60), 10);
        due.is("spares(0, 0)", x.spares(0, 0), BAD);
        due.is("spares(0, 61)", x.spares(0, 61), BAD);
        due.is("spares(2, 1)", x.spares(2, 1), BAD);
        due.is("spares(-1, 1)", x.spares(-1, 1), BAD);
        due.is("told(0, 3)", x.told(0, 3), 0);

        fresh("promise 22");
        due.is("taps(1), no butts", x.taps(1), NONE);
        due.is("taps(0), no butts", x.taps(0), BAD);
        due.is("taps(61), no butts", x.taps(61), BAD);
        dryWeather();
        x.butt(1, 100, 5);
        x.butt(1, 100, 50);
        x.butt(1, 100, 50);
        x.bed(30);
        due.is("taps(1), of several", x.taps(1), 0);
        x.set(0, 2, 10);
        x.set(1, 2, 40);
        x.set(2, 2, 40);
        due.is("taps(60)", x.taps(60), 1);
        x.set(2, 2, 41);
        due.is("taps(60)", x.taps(60), 2);
        due.is("taps(1)", x.taps(1), 1);
        due.is("told(1, 3)", x.told(1, 3), 50);
        x.set(0, 3, 10);
        x.set(0, 2, 1);
        x.set(1, 3, 1);
        x.set(1, 2, 1);
        x.set(2, 2, 0);
        due.is("taps(2), down to the last gallon", x.taps(2), 0);
        x.set(0, 3, 0);
        due.is("taps(2), down to the last gallon", x.taps(2), 1);
        fullGarden();
    }

    /** As many butts and beds as there may be, so that every row is used to its end. */
    private static void fullGarden() {
        fresh("promises 14 to 23, 32 and 41, a full garden");
        dryWeather();
        for (int i = 0; i < 8; i++) {
            x.butt(1, 100, 0);
            x.set(i, 2, 10);
            x.bed(i + 3);
        }
        // 52 are wanted a day, 80 are there.
        due.is("days(1)", x.days(1), 0);
        due.is("gallons(4)", x.gallons(4), 28);
        due.is("gallons(5)", x.gallons(5), 52);
        due.is("behind(1, 1)", x.behind(1, 1), 24);
        due.is("leave(1, 0)", x.leave(1, 0), 7);
        due.is("leave(1, 1)", x.leave(1, 1), 14);
        due.is("dryBy()", x.dryBy(), 1);
        due.is("taps(1)", x.taps(1), 0);
        due.is("spares(7, 1)", x.spares(7, 1), 10);
        due.is("larger(7, 23, 1)", x.larger(7, 23, 1), NONE);
        due.is("larger(7, 24, 1)", x.larger(7, 24, 1), 100);
        x.sheet(0, 0, 24);
        due.is("gauged(0, 7, 0)", x.gauged(0, 7, 0), 0);
        due.is("reads(0)", x.reads(0), 5);
        due.is("pourDown(9)", x.pourDown(9), 0);
        due.is("gallons(0)", x.gallons(0), 8 * 45);
        due.is("keep()", x.keep(), 8);
        due.is("pour(0)", x.pour(0), 8);
        due.is("back()", x.back(), 8);
        due.is("bedTold(7, 0)", x.bedTold(7, 0), 10);
    }

    private static void gauges() {
        fresh("promise 23");
        dryWeather();
        x.butt(0, 200, 0);
        x.set(0, 2, 100);
        due.is("gauged(0, 0, 0), missing", x.gauged(0, 0, 0), NOTHING);
        due.is("gauged(0, 1, 0), missing", x.gauged(0, 1, 0), BAD);
        due.is("gauged(0, 0, 2), missing", x.gauged(0, 0, 2), BAD);
        due.is("gauged(-1, 0, 0)", x.gauged(-1, 0, 0), BAD);
        due.is("gauged(4, 0, 0)", x.gauged(4, 0, 0), BAD);
        x.sheet(0, 1, 0);
        due.is("gauged(0, 0, 0), no places", x.gauged(0, 0, 0), 0);
        due.is("gauged(0, 0, 1), no places", x.gauged(0, 0, 1), 0);
        x.sheet(0, 1, 3);
        x.mark(0, 0, 90);
        x.mark(0, 1, NONE);
        x.mark(0, 2, 98);
        // Behind 2 days: a BUTT holds 95 (3 less, 2 less), a LIDDED one 100, a TANK 98 (1 less each).
        due.is("gauged(0, 0, 0), a tank", x.gauged(0, 0, 0), 5);
        due.is("gauged(0, 0, 1), a tank", x.gauged(0, 0, 1), 10);
        x.mark(0, 2, 150);
        due.is("gauged(0, 0, 0), lidded", x.gauged(0, 0, 0), 1);
        due.is("gauged(0, 0, 1), lidded", x.gauged(0, 0, 1), 60);
        x.mark(0, 2, -100);
        due.is("gauged(0, 0, 0), a butt", x.gauged(0, 0, 0), 0);
        due.is("gauged(0, 0, 1), a butt", x.gauged(0, 0, 1), 205);
        x.rule(0, 100);
        x.rule(1, 100);
        Due.text(x, "catch 20");
        Due.text(x, "dry 0");
        x.mark(0, 0, 100);
        int[] behindTwo = {140, 120, 130, 100, 120, 180};
        int[] best = {0, 1, 2, 3, 1, 5};
        for (int i = 0; i < 6; i++) {
            x.mark(0, 2, behindTwo[i]);
            due.is("gauged(0, 0, 0) of " + behindTwo[i], x.gauged(0, 0, 0), best[i]);
            due.is("gauged(0, 0, 1) of " + behindTwo[i], x.gauged(0, 0, 1), 0);
        }
        Due.text(x, "catch 40");
        x.mark(0, 2, 160);
        due.is("gauged(0, 0, 0), a flap", x.gauged(0, 0, 0), 4);
        due.is("told(0, 0)", x.told(0, 0), 0);
        due.is("told(0, 2)", x.told(0, 2), 100);

        fresh("promise 24");
        dryWeather();
        x.rule(2, 1);
        x.bed(4);
        x.bed(3);
        x.days(2);
        due.is("fine()", x.fine(), 14);
        x.rule(2, 0);
        x.days(3);
        due.is("fine()", x.fine(), 14);
        Due.text(x, "fine b-l*100");
        due.is("fine(), by a text", x.fine(), 14 - 2100);
    }

    private static int worth(String text) {
        WaterButts y = new WaterButts();
        Due.text(y, "fine " + text);
        return y.count(7) == 1 ? y.fine() : FULL;
    }

    private static void textsAreRead() {
        fresh("promise 25");
        due.is("feed", x.feed(0x66696e65, 0x20371f2d, 0x20202020), 12);
        due.is("text(), the bytes", x.text(), -106);
        for (int i = 1; i <= 8; i++) {
            due.is("feed", x.feed(LEAST, -1, MOST), 12 * i);
        }
        due.is("feed, a ninth", x.feed(0, 0, 0), FULL);
        due.is("count(9)", x.count(9), 96);
        x.trim(85);
        due.is("feed, one byte too many", x.feed(0, 0, 0), FULL);
        x.trim(84);
        due.is("feed", x.feed(0, 0, 0), 96);

        fresh("promise 26");
        due.is("trim(0)", x.trim(0), 0);
        due.is("trim(1)", x.trim(1), BAD);
        x.feed(0x66696e65, 0x20372b34, 0x33333333);
        due.is("trim(13)", x.trim(13), BAD);
        due.is("trim(-1)", x.trim(-1), BAD);
        due.is("trim(12)", x.trim(12), 12);
        due.is("trim(8)", x.trim(8), 8);
        due.is("trim(9)", x.trim(9), BAD);
        due.is("count(9)", x.count(9), 8);
        due.is("text()", x.text(), 0);
        due.is("count(9)", x.count(9), 0);
        due.is("fine()", x.fine(), 11);

        due.part("promise 27, what texts give");
        due.is("numbers", worth("0042"), 42);
        due.is("sums from the left", worth("9-3-2"), 4);
        due.is("terms from the left", worth("100/7*2"), 28);
        due.is("terms before sums", worth("2+3*4-8/2"), 10);
        due.is("parentheses", worth("(2+3)*(4-8)/2"), -10);
        due.is("cut towards 0", worth("(0-7)/2"), -3);
        due.is("by 0", worth("7/0"), 0);
        due.is("least by -1", worth("(0-8*16*16*16*16*16*16*16)/(0-1)"), LEAST);
        due.is("wrap", worth("9999*9999*9999"), (int) 999700029999L);
        due.is("less", worth("3<4"), 1);
        due.is("not less", worth("4<4"), 0);
        due.is("as much", worth("4=4"), 1);
        due.is("not as much", worth("4=5"), 0);
        due.is("more", worth("5>4"), 1);
        due.is("not more", worth("4>4"), 0);
        due.is("sums before tests", worth("1+1<1+2"), 1);
        due.is("tests before and", worth("1&2>1"), 1);
        due.is("and before or", worth("1|0&0"), 1);
        due.is("and before or, in parentheses", worth("(1|0)&0"), 0);
        due.is("or", worth("0|0"), 0);
        due.is("or of numbers", worth("0|7"), 1);
        due.is("and of numbers", worth("8&4"), 1);
        due.is("not", worth("!5"), 0);
        due.is("not 0", worth("!0"), 1);
        due.is("not not", worth("!!5"), 1);
        due.is("not goes first", worth("!0+5"), 6);
        due.is("not of parentheses", worth("!(0+5)+3"), 3);
        due.is("not in a term", worth("6*!0*2"), 12);
        due.is("chains", worth("0|0|0|1"), 1);
        due.is("chains of and", worth("1&1&1&0"), 0);
        due.is("tests in parentheses", worth("(1<2)=(2>1)"), 1);
        due.is("blanks", worth("   1   +  2  "), 3);
        due.is("eight open", worth("((((((((5))))))))"), 5);
        due.is("eight nots", worth("!!!!!!!!5"), 1);
        due.is("eight of each", worth("!(!(!(!(!(!(!(!(5))))))))"), 1);
        due.is("more than eight, not within others", worth("(1)+(1)+(1)+(1)+(1)+(1)+(1)+(1)+(1)"), 9);
        due.is("more than eight nots, not within others", worth("!0+!0+!0+!0+!0+!0+!0+!0+!0"), 9);
        due.is("much that waits", worth("0|1&1<1+1*(0|1&1<1+1*(0|1&1<1+1*(0|1&1<1+1*(0|1&1<1+1*(0|1&1<1+1*(2)))))) "), 1);

        fresh("promise 27");
        due.is("a sign right behind the key", Due.text(x, "dry(h)"), 0);
        due.is("a not right behind the key", Due.text(x, "catch!h"), 1);
        due.is("blanks at both ends", Due.text(x, "  fine b  "), 2);
        due.is("all names of catch", Due.text(x, "catch r+s+h"), 3);
        due.is("all names of dry", Due.text(x, "dry h+s+d"), 4);
        due.is("all names of fine", Due.text(x, "fine b+l"), 5);
        due.is("a long one", Due.text(x, "fine" + " ".repeat(91) + "b"), 6);
        due.is("count(7)", x.count(7), 7);
    }

    private static void fault(String text, int place) {
        Due.feed(x, text);
        due.is("text() of '" + text + "'", x.text(), -100 - place);
        due.is("count(9) behind '" + text + "'", x.count(9), 0);
    }

    private static void textsAreFaulty() {
        fresh("promise 27, faults");
        fault("", 0);
        fault("   ", 3);
        fault("catch", 5);
        fault("dry  ", 5);
        fault("dries h", 0);
        fault("  wet h", 2);
        fault("catc h", 0);
        fault("batch r", 0);
        fault("catcg r", 0);
        fault("ary h", 0);
        fault("find b", 0);
        fault("catchr", 0);
        fault("Catch r", 0);
        fault("5", 0);
        fault("(fine b)", 0);
        fault("catch10", 5);
        fault("catch 10r", 8);
        fault("fine b5", 6);
        fault("fine 12345", 5);
        fault("fine 1 23456", 7);
        fault("fine b+12345", 7);
        fault("fine 1 2", 7);
        fault("fine b l", 7);
        fault("fine r", 5);
        fault("fine d", 5);
        fault("catch d", 6);
        fault("catch b", 6);
        fault("dry r", 4);
        fault("dry l", 4);
        fault("catch rs", 6);
        fault("catch catch", 6);
        fault("fine +1", 5);
        fault("fine -1", 5);
        fault("fine 1+", 7);
        fault("fine 1+ ", 8);
        fault("fine 1++1", 7);
        fault("fine 1<2<3", 8);
        fault("fine 1=2>3", 8);
        fault("fine 1<2&3<4<5", 12);
        fault("fine ()", 6);
        fault("fine (1", 7);
        fault("fine (1))", 8);
        fault("fine 1)", 6);
        fault("fine (1 2)", 8);
        fault("fine !", 6);
        fault("fine 1!", 6);
        fault("fine 1(2)", 6);
        fault("fine 1 % 2", 7);
        fault("fine 1\t", 6);
        fault("fine \0", 5);
        fault("fine 1;", 6);
        fault("fine " + (char) 233, 5);
        fault("fine (((((((((1)))))))))", 13);
        fault("fine !!!!!!!!!1", 13);
        fault("fine !(!(!(!(!(!(!(!(!1))))))))", 21);
        fault("fine (!(!(!(!(!(!(!(!(1)))))))))", 21);
        fault("fine 1" + " ".repeat(89) + "+", 96);
        due.is("count(7)", x.count(7), 0);
        due.is("fine()", x.fine(), 0);
    }

    private static void textsCount() {
        fresh("promise 27, full");
        for (int i = 0; i < 14; i++) {
            due.is("text()", Due.text(x, "fine " + i), i);
        }
        due.is("text(), the fifteenth", Due.text(x, "dry h"), FULL);
        due.is("count(9)", x.count(9), 0);
        due.is("text(), the fifteenth, a fault", Due.text(x, "dry h h"), -106);
        due.is("text(), the fifteenth", Due.text(x, "fine 99"), FULL);
        due.is("count(7)", x.count(7), 14);
        due.is("fine()", x.fine(), 13);
        due.is("why(1)", x.why(1), NONE);

        fresh("promise 28");
        Due.text(x, "dry h*2 > (s+d) & !7");
        Due.text(x, "fine 1");
        Due.text(x, "catch r+r");
        due.is("textTold(0, 0)", x.textTold(0, 0), 1);
        due.is("textTold(1, 0)", x.textTold(1, 0), 2);
        due.is("textTold(2, 0)", x.textTold(2, 0), 0);
        due.is("textTold(0, 1)", x.textTold(0, 1), 5);
        due.is("textTold(1, 1)", x.textTold(1, 1), 1);
        due.is("textTold(2, 1)", x.textTold(2, 1), 2);
        due.is("textTold(3, 0)", x.textTold(3, 0), BAD);
        due.is("textTold(-1, 0)", x.textTold(-1, 0), BAD);
        due.is("textTold(0, 2)", x.textTold(0, 2), BAD);
        due.is("textTold(0, -1)", x.textTold(0, -1), BAD);

        Due.text(x, "dry 1+2+3 4");
        Due.text(x, "dry 1");
        due.is("textTold(3, 1), behind a fault", x.textTold(3, 1), 1);
        Due.text(x, "fine !1 2");
        Due.text(x, "fine 5");
        due.is("fine(), behind a fault", x.fine(), 5);

        fresh("promise 29");
        Due.text(x, "fine 1");
        Due.text(x, "fine 2");
        due.is("why(2)", x.why(2), 1);
        due.is("fine()", x.fine(), 2);
        Due.text(x, "catch 4");
        due.is("why(0)", x.why(0), 2);
        due.is("why(2)", x.why(2), 1);
        Due.text(x, "fine 3+");
        due.is("why(2), behind a fault", x.why(2), 1);
        due.is("why(1)", x.why(1), NONE);
        due.is("why(3)", x.why(3), BAD);
        due.is("why(-1)", x.why(-1), BAD);
    }

    private static void sheets() {
        fresh("promise 30");
        due.is("sheet(0, 0, 24)", x.sheet(0, 0, 24), 24);
        due.is("sheet(3, 1, 0)", x.sheet(3, 1, 0), 0);
        due.is("sheet(0, 0, 25)", x.sheet(0, 0, 25), BAD);
        due.is("sheet(0, 1, -1)", x.sheet(0, 1, -1), SIZE);
        due.is("sheet(4, 1, -1)", x.sheet(4, 1, -1), BAD);
        due.is("sheet(-1, 0, 1)", x.sheet(-1, 0, 1), BAD);
        due.is("sheet(0, 2, -1)", x.sheet(0, 2, -1), BAD);
        due.is("sheet(0, -2, 1)", x.sheet(0, -2, 1), BAD);
        due.is("mark(0, 0, 5)", x.mark(0, 0, 5), 1);
        due.is("mark(0, 23, 5)", x.mark(0, 23, 5), 1);
        due.is("sheet(0, 0, 24)", x.sheet(0, 0, 24), 24);
        x.lay(0, 2, 0);
        due.is("item(0, 0), all 0", x.item(0, 0), 0);
        due.is("item(0, 23), all 0", x.item(0, 23), 0);
        due.is("sheet(0, -1, 99)", x.sheet(0, -1, 99), 0);
        due.is("reads(0)", x.reads(0), NOTHING);
        due.is("sheet(1, -1, -99)", x.sheet(1, -1, -99), 0);
        due.is("sheet(4, -1, 0)", x.sheet(4, -1, 0), BAD);

        fresh("promise 31");
        due.is("mark(0, 0, 1), missing", x.mark(0, 0, 1), NOTHING);
        due.is("mark(4, 0, 1)", x.mark(4, 0, 1), BAD);
        due.is("mark(-1, 0, 1)", x.mark(-1, 0, 1), BAD);
        x.sheet(0, 0, 2);
        x.sheet(1, 1, 2);
        due.is("mark(0, 2, NONE)", x.mark(0, 2, NONE), INDEX);
        due.is("mark(0, -1, 1)", x.mark(0, -1, 1), INDEX);
        due.is("mark(0, 1, NONE)", x.mark(0, 1, NONE), KIND);
        due.is("mark(1, 2, 100000)", x.mark(1, 2, 100000), INDEX);
        due.is("mark(1, 0, 100000)", x.mark(1, 0, 100000), BAD);
        due.is("mark(1, 0, -100000)", x.mark(1, 0, -100000), BAD);
        due.is("mark(1, 0, 99999)", x.mark(1, 0, 99999), 1);
        due.is("mark(1, 1, -99999)", x.mark(1, 1, -99999), 1);
        due.is("mark(0, 0, 32768)", x.mark(0, 0, 32768), 1);
        due.is("mark(0, 1, 0x12345)", x.mark(0, 1, 0x12345), 1);
        x.lay(0, 2, 0);
        x.lay(1, 2, 1);
        due.is("item(0, 0)", x.item(0, 0), -32768);
        due.is("item(0, 1)", x.item(0, 1), 0x2345);
        due.is("item(1, 0)", x.item(1, 0), 99999);
        due.is("item(1, 1)", x.item(1, 1), -99999);
        due.is("mark(1, 0, NONE)", x.mark(1, 0, NONE), 1);
        due.is("mark(1, 0, 7)", x.mark(1, 0, 7), 1);

        fresh("promise 32");
        due.is("pour(0), missing", x.pour(0), NOTHING);
        due.is("pour(4)", x.pour(4), BAD);
        due.is("pour(-1)", x.pour(-1), BAD);
        for (int i = 0; i < 5; i++) {
            x.bed(10 + i);
        }
        x.sheet(0, 1, 4);
        due.is("mark", x.mark(0, 0, 100), 1);
        x.mark(0, 1, NONE);
        x.mark(0, 2, -1);
        x.mark(0, 3, 13);
        due.is("pour(0)", x.pour(0), 2);
        int[] wants = {99, 11, 0, 13, 14};
        for (int i = 0; i < 5; i++) {
            due.is("bedTold(" + i + ", 0)", x.bedTold(i, 0), wants[i]);
        }
        due.is("pour(0), again", x.pour(0), 0);
        x.sheet(1, 0, 24);
        due.is("pour(1), more places than beds", x.pour(1), 4);

        fresh("promise 33");
        due.is("reads(4)", x.reads(4), BAD);
        due.is("reads(-1)", x.reads(-1), BAD);
        due.is("reads(0)", x.reads(0), NOTHING);
        x.sheet(0, 1, 3);
        due.is("reads(0), no butts", x.reads(0), 0);
        x.butt(0, 50, 0);
        x.butt(0, 50, 0);
        x.set(1, 2, 5);
        due.is("reads(0)", x.reads(0), 1);
        x.mark(0, 1, 5);
        due.is("reads(0), no such butt", x.reads(0), 2);
        x.mark(0, 2, NONE);
        due.is("reads(0), no number", x.reads(0), NONE);
        x.mark(0, 0, NONE);
        x.set(0, 2, 9);
        due.is("reads(0), no number first", x.reads(0), NONE);
        x.sheet(1, 0, 0);
        due.is("reads(1), no places", x.reads(1), NONE);

        copies();
    }

    private static void copies() {
        fresh("promise 34");
        due.is("copy(4, 0, 0, 0, 1)", x.copy(4, 0, 0, 0, 1), BAD);
        due.is("copy(0, 0, -1, 0, 1)", x.copy(0, 0, -1, 0, 1), BAD);
        due.is("copy(0, 0, 1, 0, 1)", x.copy(0, 0, 1, 0, 1), NOTHING);
        x.sheet(0, 0, 5);
        due.is("copy(0, 0, 1, 0, 1)", x.copy(0, 0, 1, 0, 1), NOTHING);
        due.is("copy(1, 0, 0, 0, 1)", x.copy(1, 0, 0, 0, 1), NOTHING);
        x.sheet(1, 1, 5);
        due.is("copy(0, 9, 1, 0, 1)", x.copy(0, 9, 1, 0, 1), KIND);
        x.sheet(1, 0, 3);
        for (int i = 0; i < 5; i++) {
            x.mark(0, i, i + 1);
        }
        due.is("copy(0, 5, 1, 0, 1)", x.copy(0, 5, 1, 0, 1), INDEX);
        due.is("copy(0, -1, 1, 0, 1)", x.copy(0, -1, 1, 0, 1), INDEX);
        due.is("copy(0, 0, 1, -1, 1)", x.copy(0, 0, 1, -1, 1), INDEX);
        due.is("copy(0, 0, 1, 0, 4)", x.copy(0, 0, 1, 0, 4), INDEX);
        due.is("copy(1, 0, 0, 0, 4)", x.copy(1, 0, 0, 0, 4), INDEX);
        due.is("copy(0, 0, 1, 0, -1)", x.copy(0, 0, 1, 0, -1), INDEX);
        due.is("copy(0, 1, 1, 1, MOST)", x.copy(0, 1, 1, 1, MOST), INDEX);
        due.is("copy(0, MOST, 1, 1, 1)", x.copy(0, MOST, 1, 1, 1), INDEX);
        due.is("copy(0, 6, 1, 0, 0)", x.copy(0, 6, 1, 0, 0), INDEX);
        due.is("copy(0, 5, 1, 3, 0)", x.copy(0, 5, 1, 3, 0), 0);
        due.is("copy(0, 2, 1, 0, 3)", x.copy(0, 2, 1, 0, 3), 3);
        due.is("copy(0, 0, 0, 1, 4)", x.copy(0, 0, 0, 1, 4), 4);
        x.lay(0, 2, 0);
        x.lay(1, 2, 1);
        int[] moved = {1, 1, 2, 3, 4};
        for (int i = 0; i < 5; i++) {
            due.is("item(0, " + i + ")", x.item(0, i), moved[i]);
        }
        for (int i = 0; i < 3; i++) {
            due.is("item(1, " + i + ")", x.item(1, i), i + 3);
        }
        x.copy(0, 1, 0, 0, 4);
        x.lay(0, 2, 0);
        int[] movedBack = {1, 2, 3, 4, 4};
        for (int i = 0; i < 5; i++) {
            due.is("item(0, " + i + ")", x.item(0, i), movedBack[i]);
        }
        x.sheet(2, 1, 2);
        x.mark(2, 0, NONE);
        due.is("copy(2, 0, 2, 1, 1)", x.copy(2, 0, 2, 1, 1), 1);
        x.lay(2, 2, 2);
        due.is("item(2, 1)", x.item(2, 1), KIND);
    }

    private static void slots() {
        fresh("promise 35");
        due.is("lay(5, 0, 0)", x.lay(5, 0, 0), BAD);
        due.is("lay(-1, 0, 0)", x.lay(-1, 0, 0), BAD);
        due.is("lay(0, 4, 0)", x.lay(0, 4, 0), BAD);
        due.is("lay(0, -1, 0)", x.lay(0, -1, 0), BAD);
        due.is("lay(0, 1, 0), no butt", x.lay(0, 1, 0), BAD);
        due.is("lay(0, 2, 4)", x.lay(0, 2, 4), BAD);
        due.is("lay(0, 2, -1)", x.lay(0, 2, -1), BAD);
        due.is("lay(0, 2, 0)", x.lay(0, 2, 0), NOTHING);
        x.butt(5, 50, 0);
        x.set(0, 2, 8);
        x.sheet(0, 0, 1);
        x.mark(0, 0, 6);
        due.is("lay(4, 3, MOST)", x.lay(4, 3, MOST), 0);
        due.is("lay(4, 2, 0)", x.lay(4, 2, 0), 3);
        due.is("lay(4, 2, 1), refused", x.lay(4, 2, 1), NOTHING);
        due.is("lay(4, 1, 0)", x.lay(4, 1, 0), 2);
        due.is("lay(4, 1, 1), refused", x.lay(4, 1, 1), BAD);
        due.is("lay(4, 0, 77)", x.lay(4, 0, 77), 1);
        due.is("lay(4, 0, 0)", x.lay(4, 0, 0), 0);
        x.lay(1, 1, 0);
        x.lay(2, 2, 0);
        x.set(0, 2, 9);
        x.mark(0, 0, 7);
        due.is("ask(1, 5), as it was", x.ask(1, 5), 8);
        due.is("item(2, 0), as it was", x.item(2, 0), 6);
        x.sheet(0, -1, 0);
        due.is("item(2, 0), a row of its own", x.item(2, 0), 6);

        fresh("promise 36");
        due.is("ask(5, 0)", x.ask(5, 0), BAD);
        due.is("ask(-1, 0)", x.ask(-1, 0), BAD);
        due.is("ask(0, 6)", x.ask(0, 6), BAD);
        due.is("ask(0, -1)", x.ask(0, -1), BAD);
        due.is("ask(0, 0)", x.ask(0, 0), NOTHING);
        x.lay(0, 3, 5);
        due.is("ask(0, 0), a number", x.ask(0, 0), KIND);
        x.sheet(0, 0, 1);
        x.lay(0, 2, 0);
        due.is("ask(0, 0), a sheet", x.ask(0, 0), KIND);
        x.butt(4, 100, 0);
        x.lay(0, 1, 0);
        due.is("ask(0, 4)", x.ask(0, 4), 892);
        due.is("ask(0, 2)", x.ask(0, 2), 892);
        due.is("ask(0, 0)", x.ask(0, 0), 892);
        due.is("ask(0, 1)", x.ask(0, 1), KIND);
        due.is("ask(0, 5)", x.ask(0, 5), KIND);

        fresh("promise 37");
        due.is("item(5, 0)", x.item(5, 0), BAD);
        due.is("item(-1, 0)", x.item(-1, 0), BAD);
        due.is("item(0, 0)", x.item(0, 0), NOTHING);
        x.lay(0, 3, 5);
        due.is("item(0, 0), a number", x.item(0, 0), KIND);
        x.sheet(0, 1, 2);
        x.mark(0, 0, NONE);
        x.mark(0, 1, -4);
        x.lay(0, 2, 0);
        due.is("item(0, 0)", x.item(0, 0), KIND);
        due.is("item(0, 1)", x.item(0, 1), -4);
        due.is("item(0, 2)", x.item(0, 2), INDEX);
        due.is("item(0, -1)", x.item(0, -1), INDEX);

        fresh("promise 38");
        due.is("rest(5, 1)", x.rest(5, 1), BAD);
        due.is("rest(-1, 0)", x.rest(-1, 0), BAD);
        due.is("rest(0, 0)", x.rest(0, 0), NOTHING);
        x.sheet(0, 1, 2);
        x.lay(0, 2, 0);
        due.is("rest(0, 0), a sheet", x.rest(0, 0), KIND);
        x.lay(0, 3, LEAST);
        due.is("rest(0, -1)", x.rest(0, -1), 0);
        due.is("rest(0, 0)", x.rest(0, 0), NO);
        due.is("rest(0, 10)", x.rest(0, 10), -8);
        x.lay(0, 3, 17);
        due.is("rest(0, -5)", x.rest(0, -5), 2);
    }

    private static void rowsAndImages() {
        fresh("promise 39");
        for (int i = 1; i <= 60; i++) {
            due.is("tell(" + i + ")", x.tell(i), i);
        }
        due.is("tell(61)", x.tell(61), FULL);
        due.is("count(8)", x.count(8), 60);

        fresh("promise 40");
        x.tell(1);
        due.is("check(1), no image", x.check(1), NO);
        due.is("count(8)", x.count(8), 0);
        x.tell(1);
        due.is("check(0), no image", x.check(0), BAD);
        due.is("count(8)", x.count(8), 0);
        x.tell(1);
        due.is("check(31), no image", x.check(31), BAD);
        due.is("count(8)", x.count(8), 0);
        dryWeather();
        x.butt(1, 100, 0);
        x.set(0, 2, 25);
        x.bed(10);
        x.keep();
        Due.text(x, "dry 50");
        Due.text(x, "catch 50");
        x.set(0, 2, 3);
        checkRow(0, 3, 15, 0, 5, 0, 0, 5);
        checkRow(0, 1, 15, 0);
        checkRow(1, 3);
        checkRow(2, 3, 15);
        checkRow(6, 3, 15, 0, 5, 0, 0);
        checkRow(6, 3, 15, 0, 5, 0, 0, 4);
        checkRow(1, 3, 14, 0, 5, 0, 0, 5);
        checkRow(2, 3, 15, 1, 5, 0, 0, 5);
        checkRow(3, 3, 15, 0, 6, 0, 0, 5);
        checkRow(4, 3, 15, 0, 5, 1, 0, 5);
        checkRow(7, 3, 15, 0, 5, 0, 0, 5, 0);
        checkRow(3, 1, 15, 0, 5, 0);
        due.is("told(0, 2)", x.told(0, 2), 3);
        due.is("count(2)", x.count(2), 0);

        fresh("promise 40, the last day");
        dryWeather();
        for (int i = 0; i < 100; i++) {
            x.days(i < 99 ? 100 : 97);
        }
        x.bed(2);
        x.keep();
        checkRow(0, 3, 0, 2, 0, 4);
        checkRow(5, 3, 0, 2, 0, 4, 0, 6);
        x.days(2);
        x.keep();
        checkRow(0, 30);
        checkRow(1, 30, 0, 6);

        fresh("promise 40, thirty days");
        dryWeather();
        x.bed(3);
        x.keep();
        for (int i = 1; i <= 30; i++) {
            x.tell(0);
            x.tell(3 * i);
        }
        due.is("check(30)", x.check(30), 0);

        images();

        fresh("promise 43");
        due.is("count(-1)", x.count(-1), BAD);
        due.is("count(11)", x.count(11), BAD);
        x.butt(0, 5, 0);
        x.bed(5);
        x.bed(5);
        dryWeather();
        x.days(3);
        int z = x.count(10);
        int threeDraws = Due.nextZ(Due.nextZ(Due.nextZ(1)));
        x.rule(0, 11);
        x.rule(1, 12);
        x.rule(2, 1);
        x.rule(3, 1);
        Due.text(x, "dry 1");
        Due.text(x, "dry 2");
        Due.text(x, "dry 2");
        Due.text(x, "dry 2");
        x.tell(1);
        x.tell(1);
        x.feed(0, 0, 0);
        int[] counts = {1, 2, 3, 11, 12, 1, 1, 4, 2, 12, threeDraws};
        for (int i = 0; i < counts.length; i++) {
            due.is("count(" + i + ")", x.count(i), counts[i]);
        }
        due.is("z", z, threeDraws);
    }

    private static void checkRow(int want, int n, int... row) {
        for (int v : row) {
            x.tell(v);
        }
        due.is("check(" + n + ") of " + java.util.Arrays.toString(row), x.check(n), want);
        due.is("count(8)", x.count(8), 0);
    }

    private static void images() {
        fresh("promise 41");
        due.is("keep(), no butts", x.keep(), 0);
        x.butt(0, 60, 4);
        x.butt(2, 80, 5);
        due.is("keep()", x.keep(), 2);
        x.rule(3, 1);
        x.back();
        due.is("count(6), dry yesterday", x.count(6), 0);
        x.rule(3, 1);
        x.keep();
        x.rule(3, 0);
        x.back();
        due.is("count(6), wet yesterday", x.count(6), 1);

        fresh("promise 42");
        due.is("back(), no image", x.back(), NO);
        x.butt(0, 60, 4);
        x.butt(2, 80, 5);
        x.bed(7);
        Due.text(x, "fine 3");
        x.rule(2, 1);
        x.days(4);
        int[] told = everything();
        due.is("keep()", x.keep(), 2);
        x.sheet(0, 0, 1);
        x.mark(0, 0, 9);
        x.lay(0, 3, 33);
        x.tell(5);
        x.feed(1, 2, 3);
        for (int time = 0; time < 2; time++) {
            x.set(0, 2, 0);
            x.set(0, 1, 77);
            x.turns(0, 3);
            x.deal(3);
            x.set(2, 1, 150);
            x.set(2, 2, 150);
            x.bed(98);
            x.bed(99);
            x.wants(0, 50);
            x.seed(9);
            x.trim(0);
            Due.text(x, "fine 4");
            Due.text(x, "catch 4");
            Due.text(x, "dry 4");
            x.feed(1, 2, 3);
            x.days(20);
            x.rule(0, 1);
            x.rule(1, 1);
            x.rule(2, 0);
            x.days(5);
            due.is("bedTold(2, 2), lacked, ahead of back()", x.bedTold(2, 2) > 0 ? 1 : 0, 1);
            x.set(2, 2, 50);
            due.is("back()", x.back(), 2);
            int[] again = everything();
            for (int i = 0; i < told.length; i++) {
                due.is("number " + i + " of all, behind back()", again[i], told[i]);
            }
            due.is("count(8)", x.count(8), 1);
            due.is("count(9)", x.count(9), 12);
            due.is("rest(0, 10)", x.rest(0, 10), 3);
            due.is("reads(0)", x.reads(0), x.told(0, 2) == 9 ? NONE : 0);
        }
        due.is("butt(1, 9, 9), where one was", x.butt(1, 9, 9), 2);
        due.is("told(2, 2), where one was", x.told(2, 2), 0);
        due.is("bed(9), where one was", x.bed(9), 1);
        due.is("bedTold(1, 1), where one was", x.bedTold(1, 1), 0);
        due.is("bedTold(1, 2), where one was", x.bedTold(1, 2), 0);
        due.is("bed(9), where one was", x.bed(9), 2);
        due.is("bedTold(2, 1), where one was", x.bedTold(2, 1), 0);
        due.is("bedTold(2, 2), where one was", x.bedTold(2, 2), 0);
        x.trim(0);
        due.is("text(), where one was", Due.text(x, "fine 8"), 1);
        due.is("fine()", x.fine(), 8);
        x.back();
        due.is("fine()", x.fine(), 3);
    }

    /** All that an image keeps, as the calls tell it. */
    private static int[] everything() {
        java.util.List<Integer> all = new java.util.ArrayList<>();
        for (int what = 0; what < 11; what++) {
            if (what != 8 && what != 9) {
                all.add(x.count(what));
            }
        }
        for (int what = 0; what < 7; what++) {
            all.add(x.gallons(what));
            for (int butt = 0; butt < 8; butt++) {
                all.add(x.told(butt, what));
            }
            for (int bed = 0; bed < 8 && what < 3; bed++) {
                all.add(x.bedTold(bed, what));
            }
        }
        for (int key = 0; key < 3; key++) {
            all.add(x.why(key));
        }
        for (int text = 0; text < 14; text++) {
            all.add(x.textTold(text, 0));
        }
        all.add(x.fine());
        all.add(x.catches(0, 5));
        for (int what = 0; what < 4; what++) {
            all.add(x.behind(30, what));
        }
        return all.stream().mapToInt(Integer::intValue).toArray();
    }
}
