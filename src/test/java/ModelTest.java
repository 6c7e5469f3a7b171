import java.util.List;
import java.util.Random;

/** Runs of calls by lot, each answered by the class and by the model; wild arguments among them. */
public final class ModelTest {
    private static final int[] WILD = {Integer.MIN_VALUE, Integer.MIN_VALUE + 1, Integer.MAX_VALUE, -1, WaterButts.NONE, WaterButts.BAD,
        1000, 10000, 99999, 100000, -99999, -100000, 65536, 32768, -32769, 1 << 30};
    /** For each promise how large the three first arguments ordinarily are (0 .. so much). */
    private static final int[][] ORDINARY = {{}, {}, {5, 300, 30}, {4, 6}, {4, 9}, {4, 5}, {4, 5}, {4, 3, 300}, {40}, {4, 2}, {4, 40}, {4},
        {99999}, {3, 100}, {30}, {6}, {9}, {100, 3}, {}, {4, 2000, 40}, {60, 1}, {4, 60}, {60}, {3, 4, 1}, {}, {}, {96}, {}, {14, 1}, {2},
        {3, 1, 24}, {3, 10, 200}, {3}, {3}, {3, 8, 3, 8, 8}, {4, 3, 4}, {4, 5}, {4, 8}, {4, 20}, {200}, {30}, {}, {}, {10}};

    private static final Due due = new Due();
    /** How many calls the run has made: an object is used for 512 of them. */
    private static int made;

    public static void main(String[] args) {
        long first = args.length > 0 ? Long.parseLong(args[0]) : 1;
        int runs = args.length > 1 ? Integer.parseInt(args[1]) : 1500;
        for (int i = 0; i < runs; i++) {
            oneRun(first + i);
        }
        due.end();
    }

    private static void oneRun(long number) {
        due.part("run " + number);
        Random lot = new Random(number * 7919);
        WaterButts x = new WaterButts();
        Model m = new Model();
        int wildness = lot.nextInt(4) == 0 ? 4 : 40;
        int calls = 60 + lot.nextInt(430);
        int texty = lot.nextInt(3);
        made = 0;
        start(lot, x, m);
        while (made < calls) {
            int kind = lot.nextInt(30);
            if (kind < texty) {
                tellText(lot, x, m);
            } else if (kind == 29) {
                checkRight(lot, x, m);
            } else if (kind == 28) {
                fillSheet(lot, x, m);
            } else {
                oneCall(lot, x, m, wildness);
            }
        }
        due.is("at most 512 calls", made > 512 ? 1 : 0, 0);
    }

    /** Most runs start from a new object, some late, some with as much as there may be. */
    private static void start(Random lot, WaterButts x, Model m) {
        int way = lot.nextInt(12);
        if (way == 0) {
            for (int i = 0; i < 99; i++) {
                both(x, m, 14, 100);
            }
            both(x, m, 14, 60 + lot.nextInt(41));
        }
        if (way == 0 || way > 2) {
            return;
        }
        both(x, m, 12, lot.nextInt());
        both(x, m, 11, 8);
        for (int i = 0; i < 8; i++) {
            both(x, m, 8, lot.nextInt(way == 1 ? 10 : 100));
            both(x, m, 7, i, 2, lot.nextInt(200));
        }
        for (int i = 0; way == 2 && i < 16; i++) {
            tellText(lot, x, m);
        }
    }

    private static void oneCall(Random lot, WaterButts x, Model m, int wildness) {
        int promise = 2 + lot.nextInt(42);
        if (promise == 19 && lot.nextInt(3) != 0) {
            promise = 16;
        }
        int[] v = new int[5];
        int[] most = ORDINARY[promise];
        for (int i = 0; i < 5; i++) {
            v[i] = i < most.length ? lot.nextInt(most[i] + 1) : lot.nextInt();
            if (lot.nextInt(wildness) == 0) {
                v[i] = lot.nextInt(3) == 0 ? WILD[lot.nextInt(WILD.length)] : -1 + lot.nextInt((i < most.length ? most[i] : 50) + 4);
            }
        }
        both(x, m, promise, v);
    }

    private static int both(WaterButts x, Model m, int promise, int... args) {
        made++;
        int[] v = java.util.Arrays.copyOf(args, 5);
        int got;
        try {
            got = Calls.call(x, promise, v);
        } catch (RuntimeException e) {
            e.printStackTrace(System.out);
            got = 1234567890;
        }
        due.is(Calls.NAMES[promise] + java.util.Arrays.toString(v), got, m.answer(promise, v[0], v[1], v[2], v[3], v[4]));
        return got;
    }

    private static void tellText(Random lot, WaterButts x, Model m) {
        both(x, m, 26, 0);
        String text = TextsByLot.text(lot);
        for (int i = 0; i < text.length(); i += 12) {
            int[] three = new int[3];
            for (int k = 0; k < 12; k++) {
                three[k / 4] = three[k / 4] << 8 | (i + k < text.length() ? text.charAt(i + k) : lot.nextInt(256));
            }
            both(x, m, 25, three);
        }
        both(x, m, 26, text.length());
        both(x, m, 27);
    }

    /** A row that is right, or nearly. */
    private static void checkRight(Random lot, WaterButts x, Model m) {
        int n = 1 + lot.nextInt(6);
        List<Integer> row = m.rightRow(n);
        int spoilt = lot.nextInt(3) == 0 ? lot.nextInt(row.size() + 1) : -1;
        for (int i = 0; i < row.size(); i++) {
            both(x, m, 39, row.get(i) + (i == spoilt ? 1 : 0));
        }
        if (lot.nextInt(5) == 0) {
            both(x, m, 39, 0);
        }
        both(x, m, 40, n);
    }

    /** A sheet near what the butts hold, so that reads and gauged have something to find. */
    private static void fillSheet(Random lot, WaterButts x, Model m) {
        int sheet = lot.nextInt(4);
        int sort = lot.nextInt(2);
        int size = lot.nextInt(9);
        both(x, m, 30, sheet, sort, size);
        int butt = lot.nextInt(Math.max(1, m.buttCount()));
        boolean oneButt = lot.nextBoolean();
        for (int i = 0; i < size; i++) {
            int v = m.holdsOf(oneButt ? butt : i) + (lot.nextInt(4) == 0 ? lot.nextInt(60) - 30 : 0);
            both(x, m, 31, sheet, i, sort == 1 && lot.nextInt(5) == 0 ? WaterButts.NONE : v);
        }
        both(x, m, 33, sheet);
        both(x, m, 23, sheet, butt, 0);
        both(x, m, 23, sheet, butt, 1);
        both(x, m, 32, sheet);
    }
}
