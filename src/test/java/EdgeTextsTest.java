/** Promises 25 to 29: each bound of THE TAPE and of TEXTS from both sides, each FAULT, and that it changes nothing. */
public final class EdgeTextsTest {
    private static final int BAD = WaterButts.BAD, FULL = WaterButts.FULL, NONE = WaterButts.NONE;
    private static final int LEAST = Integer.MIN_VALUE, MOST = Integer.MAX_VALUE;

    private static final Due due = new Due();

    public static void main(String[] args) {
        feed();
        trim();
        keys();
        everyByte();
        words();
        nesting();
        ends();
        values();
        fullTexts();
        longTexts();
        textTold();
        why();
        due.end();
    }

    private static Script fresh() {
        return new Script(due);
    }

    private static Script some(String part) {
        due.part(part);
        return Gardens.some(due);
    }

    /** No TEXT: the place of its FAULT, with one BUTT and one TEXT that must stay as they are. */
    private static void fault(int place, String text) {
        due.part("promise 27, '" + text + "'");
        fresh().with("butt(0, 100, 0); set(0, 2, 7)").text("fine 3").tape(text).tells(-100 - place, "text()")
            .gives(0, "text(); count(9)").gives(1, "text(); count(7)").gives(3, "text(); fine()");
    }

    /** A TEXT, with what it gives. */
    private static void sound(int gives, String text) {
        due.part("promise 27, '" + text + "'");
        fresh().tape("fine " + text).gives(0, "text()", "text(); count(9)").gives(1, "text(); count(7)").gives(gives, "text(); fine()");
    }

    private static void feed() {
        Script s = some("promise 25");
        s.gives(21, "feed(0, 0, 0)", "feed(LEAST, MOST, -1)", "feed(0, 0, 0); count(9)").gives(FULL, "trim(9); feed(0, 0, 0); feed(0, 0, 0); feed(0, 0, 0); "
            + "feed(0, 0, 0); feed(0, 0, 0); feed(0, 0, 0); feed(0, 0, 0); feed(0, 0, 0)");
        due.part("promise 25, room for twelve");
        s = fresh().with(7, "feed(538976288, 538976288, 538976288)").tells(84, "count(9)").gives(96, "feed(0, 0, 0)", "feed(0, 0, 0); count(9)");
        s.gives(95, "trim(83); feed(0, 0, 0)").gives(FULL, "feed(0, 0, 0); feed(0, 0, 0)");
        s.with("feed(0, 0, 0); trim(85)").tells(FULL, "feed(0, 0, 0)", "feed(LEAST, MOST, -1)").gives(96, "trim(84); feed(0, 0, 0)");
        due.part("promise 25, full");
        Gardens.full(due).tells(FULL, "feed(0, 0, 0)", "feed(MOST, LEAST, NONE)").gives(12, "trim(0); feed(1, 2, 3)").gives(96, "trim(84); feed(1, 2, 3)");
        due.part("promise 25, the highest byte first");
        // "fine", " 12+", "(b) "
        s = fresh().with("feed(1718185573, 540095019, 677521696)").tells(12, "count(9)").gives(0, "text()").gives(12, "text(); fine()");
        // -1 and LEAST are bytes 255, 255, 255, 255 and 128, 0, 0, 0.
        fresh().with("feed(-1, LEAST, MOST)").tells(-100, "text()").tells(12, "count(9)");
        // "fine", " 12" and bytes 255.
        fresh().with("feed(1718185573, 540095231, -1)").tells(-107, "text()").gives(-107, "trim(8); text()").gives(0, "trim(7); text()", "trim(6); text()");
    }

    private static void trim() {
        Script s = some("promise 26");
        s.tells(BAD, "trim(-1)", "trim(10)", "trim(12)", "trim(96)", "trim(97)", "trim(LEAST)", "trim(MOST)").tells(9, "trim(9)");
        s.gives(8, "trim(8)", "trim(8); count(9)").gives(0, "trim(0)", "trim(0); count(9)").gives(BAD, "trim(8); trim(9)").gives(BAD, "trim(0); trim(1)");
        due.part("promise 26, full");
        Gardens.full(due).tells(96, "trim(96)").tells(BAD, "trim(97)", "trim(-1)").gives(95, "trim(95)").gives(BAD, "trim(95); trim(96)");
        due.part("promise 26, empty");
        fresh().tells(0, "trim(0)").tells(BAD, "trim(1)", "trim(-1)").with("feed(0, 0, 0)").gives(BAD, "text(); trim(1)").gives(0, "text(); trim(0)");
        due.part("promise 26, the first bytes stay");
        // "fine 123" keeps "fine 1"; then comes "+7          ".
        fresh().tape("fine 123").with("trim(6); feed(725032992, 538976288, 538976288)").tells(18, "count(9)").gives(8, "text(); fine()");
    }

    private static void keys() {
        fault(0, "");
        fault(1, " ");
        fault(96, " ".repeat(96));
        fault(0, "catc r");
        fault(0, "catchh r");
        fault(0, "batch r");
        fault(0, "catci r");
        fault(0, "cry h");
        fault(0, "drx h");
        fault(0, "gine b");
        fault(0, "find b");
        fault(0, "dr h");
        fault(0, "dryy h");
        fault(0, "fin b");
        fault(0, "finee b");
        fault(0, "c r");
        fault(0, "Fine b");
        fault(0, "fINE b");
        fault(3, "   fines b");
        fault(0, "fineb");
        fault(0, "r");
        fault(0, "7");
        fault(0, "! fine b");
        fault(0, "(");
        fault(5, "fine fine b");
        fault(6, "catch dry h");
        fault(7, "fine b fine l");
        due.part("promise 27, keys");
        fresh().tape("catch r").gives(0, "text(); textTold(0, 0)", "text(); why(0)").gives(NONE, "text(); why(1)", "text(); why(2)");
        fresh().tape("dry h").gives(1, "text(); textTold(0, 0)").gives(0, "text(); why(1)").gives(NONE, "text(); why(0)", "text(); why(2)");
        fresh().tape("fine l").gives(2, "text(); textTold(0, 0)").gives(0, "text(); why(2)").gives(NONE, "text(); why(0)", "text(); why(1)");
        fresh().tape("  dry(h)").gives(0, "text()");
        fresh().tape("dry!h").gives(0, "text()");
        fresh().tape(" ".repeat(90) + "fine b").gives(0, "text()");
        fresh().tape("fine" + " ".repeat(91) + "b").gives(0, "text()");
        fresh().tape("fine b" + " ".repeat(90)).gives(0, "text()");
    }

    /** Each of the 256 bytes where a PIECE must stand, and between two of them. */
    private static void everyByte() {
        String[] keys = {"catch", "dry", "fine"};
        String[] names = {"rsh", "hsd", "bl"};
        for (int b = 0; b < 256; b++) {
            char sign = (char) b;
            for (int key = 0; key < 3; key++) {
                int place = keys[key].length() + 1;
                boolean piece = names[key].indexOf(sign) >= 0 || sign >= '0' && sign <= '9';
                boolean goesOn = sign == '(' || sign == '!' || sign == ' ';
                due.part("promise 27, byte " + b + " behind " + keys[key]);
                fresh().tape(keys[key] + " " + sign).gives(piece ? 0 : goesOn ? -101 - place : -100 - place, "text()");
            }
            due.part("promise 27, byte " + b + " between two names");
            boolean joins = "|&<=>+-*/".indexOf(sign) >= 0;
            boolean letter = sign >= 'a' && sign <= 'z';
            fresh().tape("fine b" + sign + "l").gives(joins ? 0 : letter ? -105 : sign == ' ' ? -107 : -106, "text()");
            due.part("promise 27, byte " + b + " ahead of the key");
            fresh().tape(sign + "fine b").gives(sign == ' ' ? 0 : -100, "text()");
            due.part("promise 27, byte " + b + " behind the key");
            boolean digit = sign >= '0' && sign <= '9';
            fresh().tape("fine" + sign + "(b)").gives(sign == ' ' || sign == '!' ? 0 : letter ? -100 : digit || sign != '(' ? -104 : -108, "text()");
        }
    }

    private static void words() {
        sound(7, "7");
        sound(77, "77");
        sound(777, "777");
        sound(9999, "9999");
        sound(0, "0000");
        sound(1, "0001");
        fault(5, "fine 10000");
        fault(5, "fine 00001");
        fault(5, "fine " + "1".repeat(91));
        fault(8, "fine (1+12345)");
        fault(7, "fine b 1");
        fault(6, "fine b1");
        fault(6, "fine 1b");
        fault(9, "fine 1234b");
        fault(5, "fine 12345b");
        fault(10, "fine 1234 5");
        fault(3, "dry1");
        fault(4, "fine1234");
        fault(4, "fine12345");
        fault(5, "fine bb");
        fault(5, "fine bl");
        fault(7, "fine b l");
        fault(7, "fine b+bb");
        fault(5, "fine h");
        fault(5, "fine s");
        fault(4, "dry b");
        fault(6, "catch l");
        fault(5, "fine B");
        due.part("promise 27, no blank between words and signs");
        fresh().tape("catch!(r)*(s-h)").gives(0, "text()").gives(3, "text(); textTold(0, 1)");
        fresh().tape("  catch  !  (  r  )  *  (  s  -  h  )  ").gives(0, "text()").gives(3, "text(); textTold(0, 1)");
    }

    /** Eight within others, of each by itself; the ninth is the FAULT. */
    private static void nesting() {
        sound(5, "(".repeat(7) + "5" + ")".repeat(7));
        sound(5, "(".repeat(8) + "5" + ")".repeat(8));
        fault(13, "fine " + "(".repeat(9) + "5" + ")".repeat(9));
        fault(13, "fine " + "(".repeat(9));
        fault(13, "fine " + "(".repeat(91));
        fault(13, "fine " + "(".repeat(8));
        sound(0, "!".repeat(7) + "5");
        sound(1, "!".repeat(8) + "5");
        fault(13, "fine " + "!".repeat(9) + "5");
        fault(13, "fine " + "!".repeat(91));
        fault(13, "fine " + "!".repeat(8));
        sound(1, "!".repeat(8) + "(".repeat(8) + "5" + ")".repeat(8));
        sound(1, "(".repeat(8) + "!".repeat(8) + "5" + ")".repeat(8));
        sound(1, "!(".repeat(8) + "5" + ")".repeat(8));
        fault(21, "fine " + "!".repeat(8) + "(".repeat(9) + "5" + ")".repeat(9));
        fault(21, "fine " + "(".repeat(8) + "!".repeat(9) + "5" + ")".repeat(8));
        fault(21, "fine " + "!(".repeat(8) + "!5" + ")".repeat(8));
        fault(21, "fine " + "!(".repeat(8) + "(5)" + ")".repeat(8));
        sound(10, "(".repeat(8) + "5" + ")".repeat(8) + "+" + "(".repeat(8) + "5" + ")".repeat(8));
        sound(2, "!".repeat(8) + "5+" + "!".repeat(8) + "5");
        sound(8, "((((((((5))+(3)))))))");
        fault(29, "fine " + "(".repeat(8) + "5" + ")".repeat(7) + "+" + "(".repeat(9) + "5");
        sound(1, "!(!5+" + "!".repeat(7) + "0)+1+!!(0)");
        fault(16, "fine !(5+" + "!".repeat(8) + "0)");
        sound(0, "!(5+" + "!".repeat(7) + "0)");
        // Behind a sign as well, where the one and the other are not as many.
        sound(1, "!!(5+" + "!".repeat(6) + "0)");
        fault(16, "fine !!(5+" + "!".repeat(7) + "0)");
        sound(5, "((5+" + "!".repeat(8) + "0))");
        fault(17, "fine ((5+" + "!".repeat(9) + "0))");
        sound(0, "!(5*" + "(".repeat(7) + "4" + ")".repeat(8));
        fault(16, "fine !(5*" + "(".repeat(8) + "4" + ")".repeat(9));
        sound(0, "!!!(5<" + "(".repeat(7) + "6" + ")".repeat(8));
        fault(18, "fine !!!(5<" + "(".repeat(8) + "6" + ")".repeat(9));
    }

    private static void ends() {
        fault(4, "fine");
        fault(5, "fine ");
        fault(96, "fine" + " ".repeat(92));
        fault(7, "fine 1+");
        fault(9, "fine 1+  ");
        fault(7, "fine 1|");
        fault(7, "fine 1&");
        fault(7, "fine 1<");
        fault(7, "fine 1=");
        fault(7, "fine 1>");
        fault(7, "fine 1-");
        fault(7, "fine 1*");
        fault(7, "fine 1/");
        fault(6, "fine !");
        fault(6, "fine (");
        fault(7, "fine (1");
        fault(9, "fine (1  ");
        fault(9, "fine ((1)");
        fault(6, "fine ()");
        fault(8, "fine (1+)");
        fault(5, "fine )");
        fault(6, "fine 1)");
        fault(8, "fine (1))");
        fault(7, "fine 1++1");
        fault(7, "fine 1+*1");
        fault(7, "fine 1--1");
        fault(5, "fine -1");
        fault(6, "fine 1!1");
        fault(6, "fine 1(1)");
        fault(8, "fine (1)1");
        fault(8, "fine 1<2<3");
        fault(8, "fine 1<2=3");
        fault(8, "fine 1=2>3");
        fault(8, "fine 1>2<3");
        fault(7, "fine 1<>2");
        fault(7, "fine 1<=2");
        fault(10, "fine 1< 2 < 3");
        sound(1, "(1<2)<3");
        sound(0, "3<(1<2)");
        sound(1, "1<2&2<3");
        sound(1, "1<2|2<3");
        fault(95, "fine 1" + " ".repeat(89) + "1");
        fault(96, "fine 1" + " ".repeat(89) + "+");
    }

    private static void values() {
        sound(0, "5/0");
        sound(0, "0/0");
        sound(0, "(0-5)/0");
        sound(3, "7/2");
        sound(-3, "(0-7)/2");
        sound(-3, "7/(0-2)");
        sound(3, "(0-7)/(0-2)");
        sound(0, "1/2");
        sound(0, "(0-1)/2");
        sound(9, "5/0+9");
        sound(1, "5/0=0");
        sound(1, "!(5/0)");
        sound(0, "0&0");
        sound(0, "0&5");
        sound(0, "5&0");
        sound(1, "5&6");
        sound(1, "1&2");
        sound(0, "0|0");
        sound(1, "0|5");
        sound(1, "5|0");
        sound(1, "5|6");
        sound(1, "(0-1)&(0-2)");
        sound(0, "!(0-1)");
        sound(1, "!!(0-1)");
        sound(1, "(0-1)<0");
        sound(0, "0<0");
        sound(0, "0>0");
        sound(1, "0=0");
        sound(0, "(0-1)>0");
        sound(0, "4=5");
        sound(0, "5=4");
        sound(1, "1|0&0");
        sound(1, "0&0|1");
        sound(0, "(1|0)&0");
        sound(2, "8-3*2");
        sound(7, "1+2*3");
        sound(5, "9-8/2");
        sound(1, "2>1+0");
        sound(1, "1&1=1&1");
        sound(1, "0|1=1|0");
        sound(2, "8/2/2");
        sound(3, "8-3-2");
        sound(8, "8/2*2");
        sound(7, "8-3+2");
        String least = "(0-8*16*16*16*16*16*16*16)";
        sound(LEAST, least);
        sound(MOST, least + "-1");
        sound(LEAST, "0-" + least);
        sound(LEAST, least + "/(0-1)");
        sound(LEAST, least + "*(0-1)");
        sound(0, least + "*2");
        sound(0, least + "+" + least);
        sound(1, least + "<0");
        sound(0, least + "-1<0");
        sound(1, "!" + "(16*16*16*16*16*16*16*16)");
    }

    private static void fullTexts() {
        due.part("promise 27, full");
        Script s = Gardens.full(due).tells(FULL, "text()").gives(0, "text(); count(9)").gives(14, "text(); count(7)").gives(-100, "text(); text()");
        s.gives(-194, "trim(94); text()").gives(FULL, "trim(95); text()").gives(-104, "trim(4); text()").gives(-103, "trim(3); text()").gives(-100, "trim(2); text()");
        s.with("trim(94)").tells(-194, "text()").with("trim(0)").tells(-100, "text()");
        due.part("promise 27, full of others");
        s = Gardens.full(due).with("trim(0)").tape("fine 99").tells(FULL, "text()").gives(11, "text(); fine()", "text(); why(2)");
        due.part("promise 27, the fourteenth");
        s = fresh();
        for (int i = 0; i < 13; i++) {
            s.text("fine " + i);
        }
        s.tape("fine 13").gives(13, "text()", "text(); fine()", "text(); why(2)").gives(14, "text(); count(7)").gives(12, "fine()");
        s.does(13, "text()").tape("catch 1").tells(FULL, "text()").gives(NONE, "text(); why(0)");
        due.part("promise 27, room again behind back()");
        s = fresh().with("keep()");
        for (int i = 0; i < 14; i++) {
            s.text("dry " + i);
        }
        s.tape("dry 77").tells(FULL, "text()").gives(0, "back(); text()").gives(6, "back(); count(9)").gives(0, "back(); text(); why(1)");
    }

    /** THE TAPE to its last byte. */
    private static void longTexts() {
        due.part("promise 27, 96 bytes");
        fresh().tape("fine 1" + "+1".repeat(45)).gives(46, "text(); fine()", "text(); textTold(0, 1)");
        fresh().tape("fine 1" + "+1".repeat(44) + "+2").gives(47, "text(); fine()");
        fresh().tape("dry h" + "+h".repeat(45) + " ").gives(46, "text(); textTold(0, 1)");
        fresh().tape("dry h" + "+h".repeat(45) + "+").tells(-196, "text()");
        fresh().tape("dry h" + "+h".repeat(45) + ")").tells(-195, "text()");
        fresh().tape("fine " + "1|1&1<1+1*(".repeat(8) + "0" + ")".repeat(2)).tells(-196, "text()");
        fresh().tape("fine " + "0|1&1<1+1*(".repeat(6) + "1" + ")".repeat(6)).gives(1, "text(); fine()").gives(31, "text(); textTold(0, 1)");
        fresh().tape("fine " + "1*(".repeat(8) + "1" + ")".repeat(8) + "+1".repeat(29)).gives(30, "text(); fine()").gives(38, "text(); textTold(0, 1)");
        fresh().tape("fine " + "!".repeat(8) + "(".repeat(8) + "7" + ")".repeat(8) + "*(1|1&1<1+1*(1|1&1<1+1*(1|1&1<1+1*5)))" + "+1".repeat(13))
            .gives(14, "text(); fine()");
    }

    private static void textTold() {
        Script s = some("promise 28");
        s.tells(BAD, "textTold(-1, 0)", "textTold(2, 0)", "textTold(LEAST, 0)", "textTold(MOST, 0)", "textTold(14, 0)");
        s.tells(BAD, "textTold(0, -1)", "textTold(0, 2)", "textTold(0, LEAST)", "textTold(0, MOST)", "textTold(2, 2)");
        s.tells(2, "textTold(0, 0)", "textTold(1, 1)").tells(3, "textTold(0, 1)").tells(0, "textTold(1, 0)");
        s.gives(2, "text(); textTold(2, 0)", "text(); textTold(2, 1)").gives(BAD, "text(); textTold(3, 0)", "text(); back(); textTold(2, 0)");
        due.part("promise 28, full");
        Gardens.full(due).tells(1, "textTold(13, 0)", "textTold(13, 1)").tells(0, "textTold(12, 0)").tells(BAD, "textTold(14, 0)", "textTold(13, 2)");
        due.part("promise 28, behind a fault");
        fresh().tape("dry h+h+h+").does(-110, "text()").tape("dry h").gives(1, "text(); textTold(0, 1)").gives(1, "text(); textTold(0, 0)");
        fresh().tape("fine 5+!4 4").does(-110, "text()").tape("fine 7").gives(7, "text(); fine()");
        fresh().tape("fine !4 4").does(-108, "text()").tape("fine 7").gives(7, "text(); fine()");
        fresh().with("keep()").text("dry h+h").with("back()").tape("dry 7").gives(1, "text(); textTold(0, 1)");
        due.part("promise 28, none");
        fresh().tells(BAD, "textTold(0, 0)", "textTold(0, 1)", "textTold(-1, 0)").tape("fine 1+").gives(BAD, "text(); textTold(0, 0)");
    }

    private static void why() {
        Script s = some("promise 29");
        s.tells(BAD, "why(-1)", "why(3)", "why(LEAST)", "why(MOST)").tells(1, "why(0)").tells(NONE, "why(1)").tells(0, "why(2)");
        s.gives(2, "text(); why(2)").gives(0, "text(); back(); why(2)", "trim(6); feed(0, 0, 0); text(); why(2)").gives(1, "text(); why(0)");
        due.part("promise 29, full");
        Gardens.full(due).tells(12, "why(0)").tells(13, "why(1)").tells(11, "why(2)").tells(BAD, "why(-1)", "why(3)");
        due.part("promise 29, the one told last, not the one that stands last");
        s = fresh().text("fine 1").text("dry 1").with("keep()").text("fine 2").tells(2, "why(2)", "fine()").gives(0, "back(); why(2)").gives(1, "back(); why(1)");
        s.with("back()").tells(1, "fine()").text("fine 9").tells(9, "fine()").tells(2, "why(2)").gives(1, "back(); fine()");
    }
}
