/** What the tests share: counting answers that are not due, texts for the tape, draws worked out anew. */
final class Due {
    /** Times 1103515245 it is 1, as ints go. */
    private static final int INVERSE = (int) 4005161829L;

    private int wrong;
    private int asked;
    private String part = "";

    void part(String name) {
        part = name;
    }

    void is(String call, int got, int want) {
        asked++;
        if (got != want) {
            wrong++;
            System.out.println(part + ": " + call + " answered " + got + ", due is " + want);
        }
    }

    /** Ends the test, with exit code 1 if an answer was not the one that is due. */
    void end() {
        System.out.println(asked + " answers looked at, " + wrong + " not as due");
        if (wrong != 0 || asked == 0) {
            System.exit(1);
        }
    }

    /** Puts the bytes of a text on an empty tape, no others. */
    static void feed(WaterButts x, String text) {
        byte[] bytes = text.getBytes(java.nio.charset.StandardCharsets.ISO_8859_1);
        for (int i = 0; i < bytes.length; i += 12) {
            x.feed(four(bytes, i), four(bytes, i + 4), four(bytes, i + 8));
        }
        x.trim(bytes.length);
    }

    static int text(WaterButts x, String text) {
        feed(x, text);
        return x.text();
    }

    static int four(byte[] bytes, int from) {
        int v = 0;
        for (int i = from; i < from + 4; i++) {
            v = v << 8 | (i < bytes.length ? bytes[i] & 255 : 'x');
        }
        return v;
    }

    /** What z was ahead of a draw that makes it this. */
    static int lastZ(int z) {
        return (z - 12345) * INVERSE;
    }

    static int nextZ(int z) {
        return (int) (z * 1103515245L + 12345L);
    }

    static int drawOf(int z) {
        return (int) ((z & 0xffffffffL) >> 8);
    }
}
