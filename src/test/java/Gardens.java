/** States that edges are looked at from: something of each, the most of each, the last days. */
final class Gardens {
    private Gardens() {
    }

    /**
     * Something of each, in dry weather. BUTT 0 of 100 HOLDS 9 (TAP 10), 1 RIMMED of 50 HOLDS 0 (TAP 0), 2 a TANK
     * of 999 HOLDS 979 (TAP 999). BED 0 WANTS 7, HAD 14; 1 WANTS 0; 2 WANTS 99, HAD 190, LACKED 8. It is DAY 2,
     * LOST is 23, BOUGHT 106, METER 1. SHEET 0 has shorts (9, 0, -1), 1 floats (NO NUMBER, -5), 2 no places, 3 is
     * MISSING. SLOT 0 has BUTT 0, 1 SHEET 0, 2 SHEET 1, 3 the number -17, 4 nothing. THE TAPE has 9 bytes, a TEXT.
     * AN IMAGE is of DAY 0, and the numbers that wait are THE DAYS TOLD of 1.
     */
    static Script some(Due due) {
        return new Script(due)
            .with("rule(0, 0); rule(1, 0)")
            .with("butt(0, 100, 10); butt(3, 50, 0); butt(5, 999, 999); set(0, 2, 60); set(1, 2, 50); set(2, 2, 999)")
            .with("bed(7); bed(0); bed(99)")
            .text("fine b*2+l")
            .text("catch r*7")
            .with("keep(); days(1); rule(2, 1); days(1)")
            .with("sheet(0, 0, 3); mark(0, 0, 9); mark(0, 2, -1); sheet(1, 1, 2); mark(1, 0, NONE); mark(1, 1, -5); sheet(2, 0, 0)")
            .with("lay(0, 1, 0); lay(1, 2, 0); lay(2, 2, 1); lay(3, 3, -17)")
            .with("tell(999); tell(8)")
            .tape("fine 5+b ");
    }

    /**
     * The most of each: 8 LIDDED BUTTS that HOLD 999 of 999, 8 BEDS that WANT 99, 14 TEXTS (fine 0 to fine 11, catch
     * 999, dry 0), 4 SHEETS of 24 places (999 in shorts, 999 in shorts, -99999 and NO NUMBER in floats), 5 SLOTS,
     * 96 bytes of a TEXT, and 60 numbers, which are THE DAYS TOLD of 30 by THE IMAGE.
     */
    static Script full(Due due) {
        Script s = new Script(due);
        for (int i = 0; i < 8; i++) {
            s.with("butt(1, 999, 0); set(" + i + ", 2, 999); bed(99)");
        }
        for (int i = 0; i < 12; i++) {
            s.text("fine " + i);
        }
        s.text("catch 999").text("dry 0").with("keep()");
        s.with("sheet(0, 0, 24); mark(0, 0, 999)" + doubled(0)).with("sheet(1, 0, 24); copy(0, 0, 1, 0, 24)");
        s.with("sheet(2, 1, 24); mark(2, 0, -99999)" + doubled(2)).with("sheet(3, 1, 24); mark(3, 0, NONE)" + doubled(3));
        s.with("lay(0, 1, 7); lay(1, 2, 0); lay(2, 2, 2); lay(3, 2, 3); lay(4, 3, MOST)");
        // 792 are drawn each day, 499 fall into each: from the third day on the first two are never full.
        s.with("tell(7200); tell(0); tell(6907); tell(0)").with(28, "tell(6700); tell(0)");
        return s.tape("dry h" + "+h".repeat(45) + " ");
    }

    /** The first place of a SHEET comes to all its 24. */
    private static String doubled(int sheet) {
        StringBuilder s = new StringBuilder();
        int[][] atMany = {{1, 1}, {2, 1}, {3, 3}, {6, 6}, {12, 12}};
        for (int[] v : atMany) {
            s.append("; copy(").append(sheet).append(", 0, ").append(sheet).append(", ").append(v[0]).append(", ").append(v[1]).append(")");
        }
        return s.toString();
    }

    /** Dry weather, and so many days that are gone. */
    static Script onDay(Due due, int day) {
        Script s = dry(due);
        s.with(day / 100, "days(100)");
        return day % 100 == 0 ? s : s.with("days(" + day % 100 + ")");
    }

    /** No rain, and nothing else. */
    static Script dry(Due due) {
        return new Script(due).with("rule(0, 0); rule(1, 0)");
    }
}
