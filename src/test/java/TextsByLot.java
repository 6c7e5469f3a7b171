import java.util.Random;

/** Texts by lot, of 96 bytes at most: most of them sound, some spoilt at a place. */
final class TextsByLot {
    private static final String[] KEYS = {"catch", "dry", "fine"};
    private static final String[] NAMES = {"rsh", "hsd", "bl"};
    private static final String SPOILING = "()!|&<=>+-*/ 0123456789abcdhlrs\0\t~Z" + (char) 200;

    private TextsByLot() {
    }

    static String text(Random lot) {
        int key = lot.nextInt(3);
        StringBuilder s = new StringBuilder(blanks(lot)).append(KEYS[key]);
        String e = part(lot, NAMES[key], 0, 1 + lot.nextInt(4));
        s.append(Character.isLetterOrDigit(e.charAt(0)) || lot.nextBoolean() ? " " : "").append(e);
        if (lot.nextInt(8) == 0) {
            nest(lot, s, KEYS[key]);
        }
        for (int i = lot.nextInt(4) == 0 ? 1 + lot.nextInt(2) : 0; i > 0; i--) {
            spoil(lot, s);
        }
        return s.substring(0, Math.min(96, s.length()));
    }

    /** Around the depth that is still allowed. */
    private static void nest(Random lot, StringBuilder s, String key) {
        s.setLength(0);
        s.append(key).append(' ');
        int open = 0;
        for (int i = 4 + lot.nextInt(16); i > 0; i--) {
            boolean not = lot.nextBoolean();
            s.append(not ? "!" : "(").append(lot.nextInt(6) == 0 ? "1+" : "");
            open += not ? 0 : 1;
        }
        s.append(lot.nextInt(20));
        for (int i = open + (lot.nextInt(6) == 0 ? lot.nextInt(3) - 1 : 0); i > 0; i--) {
            s.append(lot.nextInt(5) == 0 ? "*2)" : ")");
        }
    }

    private static void spoil(Random lot, StringBuilder s) {
        int place = lot.nextInt(s.length() + 1);
        char sign = SPOILING.charAt(lot.nextInt(SPOILING.length()));
        int way = lot.nextInt(3);
        if (way == 0 || place == s.length()) {
            s.insert(place, sign);
        } else if (way == 1) {
            s.setCharAt(place, sign);
        } else {
            s.deleteCharAt(place);
        }
    }

    private static String blanks(Random lot) {
        return lot.nextInt(6) == 0 ? " ".repeat(lot.nextInt(3)) : "";
    }

    private static String part(Random lot, String names, int level, int depth) {
        if (level == 5) {
            return piece(lot, names, depth);
        }
        String[] signs = {"|", "&", "<=>", "+-", "*/"};
        StringBuilder s = new StringBuilder(part(lot, names, level + 1, depth));
        int more = lot.nextInt(3) == 0 ? 1 + lot.nextInt(level == 2 ? 1 : 2) : 0;
        for (int i = 0; i < more; i++) {
            char sign = signs[level].charAt(lot.nextInt(signs[level].length()));
            s.append(blanks(lot)).append(sign).append(blanks(lot)).append(part(lot, names, level + 1, depth - 1));
        }
        return s.toString();
    }

    private static String piece(Random lot, String names, int depth) {
        int way = lot.nextInt(depth > 0 ? 8 : 5);
        if (way < 2) {
            return String.valueOf(lot.nextInt(lot.nextBoolean() ? 20 : 10000));
        }
        if (way < 5) {
            return String.valueOf(names.charAt(lot.nextInt(names.length())));
        }
        if (way == 5) {
            return "!" + blanks(lot) + piece(lot, names, depth - 1);
        }
        return "(" + blanks(lot) + part(lot, names, 0, depth - 1) + blanks(lot) + ")";
    }
}
