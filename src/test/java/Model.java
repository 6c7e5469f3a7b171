import java.util.ArrayList;
import java.util.Arrays;
import java.util.List;
import java.util.regex.Matcher;
import java.util.regex.Pattern;

/**
 * The document once more, written as differently from the class as it could be: kinds are classes, texts
 * are trees over rows of words, a garden is copied whole wherever something is only thought.
 */
final class Model {
    private static final int BAD = WaterButts.BAD, NO = WaterButts.NO, FULL = WaterButts.FULL, NONE = WaterButts.NONE,
        NOTHING = WaterButts.NOTHING, KIND = WaterButts.KIND, INDEX = WaterButts.INDEX, SIZE = WaterButts.SIZE;

    // ---- kinds

    static class Plain {
        int caught(int base) {
            return base;
        }

        int loses(int base) {
            return base;
        }

        int worth(Butt b) {
            return b.room;
        }
    }

    static class Lidded extends Plain {
        @Override int caught(int base) {
            return super.caught(base) / 2;
        }

        @Override int loses(int base) {
            return 0;
        }

        @Override int worth(Butt b) {
            return super.worth(b) + 9;
        }
    }

    static class Rimmed extends Lidded {
        @Override int caught(int base) {
            return 0;
        }

        @Override int worth(Butt b) {
            return 2 * super.worth(b);
        }
    }

    static class Flushed extends Plain {
        @Override int caught(int base) {
            return Math.max(0, super.caught(base) - 5);
        }

        @Override int worth(Butt b) {
            return 999 - b.room;
        }
    }

    static class Flap extends Flushed {
        @Override int caught(int base) {
            return Math.max(0, super.caught(base) - 5);
        }

        @Override int worth(Butt b) {
            return super.worth(b) - 7;
        }
    }

    static class Tank extends Plain {
        @Override int caught(int base) {
            return 2 * super.caught(base);
        }

        @Override int loses(int base) {
            return super.loses(base) / 2;
        }

        @Override int worth(Butt b) {
            return b.holds;
        }
    }

    private static final Plain[] KINDS = {new Plain(), new Lidded(), new Flushed(), new Rimmed(), new Flap(), new Tank()};

    // ---- the garden

    record Butt(int kind, int room, int holds, int tap) {
        Butt withHolds(int v) {
            return new Butt(kind, room, v, tap);
        }

        boolean isOf(int k) {
            return KINDS[k].getClass().isInstance(KINDS[kind]);
        }

        int free() {
            return holds > tap ? holds - tap : 0;
        }
    }

    record Bed(int wants, int had, int lacked) {
    }

    static final class Garden {
        List<Butt> butts = new ArrayList<>();
        List<Bed> beds = new ArrayList<>();
        List<Text> texts = new ArrayList<>();
        int wet = 30, stays = 60, meter, yesterday, day, z = 1;
        long fallen, drained, lost, bought;

        Garden copy() {
            Garden g = new Garden();
            g.butts.addAll(butts);
            g.beds.addAll(beds);
            g.texts.addAll(texts);
            g.wet = wet;
            g.stays = stays;
            g.meter = meter;
            g.yesterday = yesterday;
            g.day = day;
            g.z = z;
            g.fallen = fallen;
            g.drained = drained;
            g.lost = lost;
            g.bought = bought;
            return g;
        }

        int draw() {
            z = Due.nextZ(z);
            return Due.drawOf(z);
        }

        int law(int key) {
            for (int i = texts.size() - 1; i >= 0; i--) {
                if (texts.get(i).key == key) {
                    return i;
                }
            }
            return NONE;
        }

        int catches(Butt b, int r) {
            int law = law(0);
            int base = 10 * r;
            if (law != NONE) {
                base = Math.min(999, Math.max(0, texts.get(law).tree.value(r, b.room, b.holds)));
            }
            return KINDS[b.kind].caught(base);
        }

        int loses(Butt b) {
            int law = law(1);
            int base = Math.min(b.holds, b.holds / 50 + 1);
            if (law != NONE) {
                base = Math.min(b.holds, Math.max(0, texts.get(law).tree.value(b.holds, b.room, day)));
            }
            return KINDS[b.kind].loses(base);
        }

        int rain(int r) {
            int over = 0;
            for (int i = 0; i < butts.size(); i++) {
                Butt b = butts.get(i);
                int c = catches(b, r);
                fallen += c;
                int sum = b.holds + c + over;
                over = sum > b.room ? sum - b.room : 0;
                butts.set(i, b.withHolds(sum - over));
            }
            drained += over;
            return over;
        }

        void oneDay() {
            int bound = yesterday == 1 ? stays : wet;
            yesterday = draw() % 100 < bound ? 1 : 0;
            int r = 0;
            if (yesterday == 1) {
                r = draw() % 9 + 1;
            }
            rain(r);
            for (int i = 0; i < butts.size(); i++) {
                int l = loses(butts.get(i));
                lost += l;
                butts.set(i, butts.get(i).withHolds(butts.get(i).holds - l));
            }
            for (int j = 0; j < beds.size(); j++) {
                Bed bed = beds.get(j);
                int drew = 0;
                // Gallon by gallon, which the class does not do.
                while (drew < bed.wants && firstFree() >= 0) {
                    int i = firstFree();
                    butts.set(i, butts.get(i).withHolds(butts.get(i).holds - 1));
                    drew++;
                }
                int missing = bed.wants - drew;
                if (meter == 1) {
                    bought += missing;
                    beds.set(j, new Bed(bed.wants, bed.had + bed.wants, bed.lacked));
                } else {
                    beds.set(j, new Bed(bed.wants, bed.had + drew, bed.lacked + missing));
                }
            }
            day++;
        }

        int firstFree() {
            for (int i = 0; i < butts.size(); i++) {
                if (butts.get(i).free() > 0) {
                    return i;
                }
            }
            return -1;
        }

        Garden behind(int n) {
            Garden g = copy();
            for (int i = 0; i < n; i++) {
                g.oneDay();
            }
            return g;
        }

        int holds() {
            return butts.stream().mapToInt(Butt::holds).sum();
        }

        int had() {
            return beds.stream().mapToInt(Bed::had).sum();
        }

        int lacked() {
            return beds.stream().mapToInt(Bed::lacked).sum();
        }
    }

    // ---- texts

    interface Tree {
        int value(int a, int b, int c);
    }

    static final class Text {
        final int key;
        final int leaves;
        final Tree tree;

        Text(int key, int leaves, Tree tree) {
            this.key = key;
            this.leaves = leaves;
            this.tree = tree;
        }
    }

    @SuppressWarnings("serial")
    static final class Fault extends RuntimeException {
        final int place;

        Fault(int place) {
            this.place = place;
        }
    }

    static final class Grammar {
        private static final Pattern WORDS = Pattern.compile("[a-z]+|[0-9]+|[^a-z0-9 ]", Pattern.DOTALL);
        private static final String[] NAMES = {"rsh", "hsd", "bl"};

        final List<String> words = new ArrayList<>();
        final List<Integer> places = new ArrayList<>();
        final String all;
        int at;
        int key;
        int leaves;

        Grammar(String all) {
            this.all = all;
            Matcher m = WORDS.matcher(all);
            while (m.find()) {
                words.add(m.group());
                places.add(m.start());
            }
            words.add("");
            places.add(all.length());
        }

        Fault fault() {
            return new Fault(places.get(at));
        }

        Text text() {
            key = List.of("catch", "dry", "fine").indexOf(words.get(0));
            if (key < 0) {
                throw fault();
            }
            at++;
            if (at < words.size() && words.get(at).matches("[a-z0-9]+") && all.charAt(places.get(at) - 1) != ' ') {
                throw fault();
            }
            Tree t = or(0, 0);
            if (at != words.size() - 1) {
                throw fault();
            }
            return new Text(key, leaves, t);
        }

        boolean takes(String sign) {
            if (words.get(at).equals(sign)) {
                at++;
                return true;
            }
            return false;
        }

        Tree or(int open, int nots) {
            Tree t = and(open, nots);
            while (takes("|")) {
                Tree l = t;
                Tree r = and(open, nots);
                t = (a, b, c) -> truth(l.value(a, b, c) != 0 | r.value(a, b, c) != 0);
            }
            return t;
        }

        Tree and(int open, int nots) {
            Tree t = test(open, nots);
            while (takes("&")) {
                Tree l = t;
                Tree r = test(open, nots);
                t = (a, b, c) -> truth(l.value(a, b, c) != 0 & r.value(a, b, c) != 0);
            }
            return t;
        }

        Tree test(int open, int nots) {
            Tree l = sum(open, nots);
            if (takes("<")) {
                Tree r = sum(open, nots);
                return (a, b, c) -> truth(l.value(a, b, c) < r.value(a, b, c));
            }
            if (takes("=")) {
                Tree r = sum(open, nots);
                return (a, b, c) -> truth(l.value(a, b, c) == r.value(a, b, c));
            }
            if (takes(">")) {
                Tree r = sum(open, nots);
                return (a, b, c) -> truth(l.value(a, b, c) > r.value(a, b, c));
            }
            return l;
        }

        Tree sum(int open, int nots) {
            Tree t = term(open, nots);
            while (true) {
                Tree l = t;
                if (takes("+")) {
                    Tree r = term(open, nots);
                    t = (a, b, c) -> (int) ((long) l.value(a, b, c) + r.value(a, b, c));
                } else if (takes("-")) {
                    Tree r = term(open, nots);
                    t = (a, b, c) -> (int) ((long) l.value(a, b, c) - r.value(a, b, c));
                } else {
                    return t;
                }
            }
        }

        Tree term(int open, int nots) {
            Tree t = piece(open, nots);
            while (true) {
                Tree l = t;
                if (takes("*")) {
                    Tree r = piece(open, nots);
                    t = (a, b, c) -> (int) ((long) l.value(a, b, c) * r.value(a, b, c));
                } else if (takes("/")) {
                    Tree r = piece(open, nots);
                    t = (a, b, c) -> r.value(a, b, c) == 0 ? 0 : (int) ((long) l.value(a, b, c) / r.value(a, b, c));
                } else {
                    return t;
                }
            }
        }

        Tree piece(int open, int nots) {
            String w = words.get(at);
            if (w.matches("[0-9]{1,4}")) {
                at++;
                leaves++;
                int v = Integer.parseInt(w);
                return (a, b, c) -> v;
            }
            if (w.length() == 1 && NAMES[key].contains(w)) {
                at++;
                leaves++;
                int name = NAMES[key].indexOf(w);
                return (a, b, c) -> name == 0 ? a : name == 1 ? b : c;
            }
            if (w.equals("!") && nots < 8) {
                at++;
                Tree t = piece(open, nots + 1);
                return (a, b, c) -> truth(t.value(a, b, c) == 0);
            }
            if (w.equals("(") && open < 8) {
                at++;
                Tree t = or(open + 1, nots);
                if (!takes(")")) {
                    throw fault();
                }
                return t;
            }
            throw fault();
        }

        static int truth(boolean b) {
            return b ? 1 : 0;
        }
    }

    // ---- the object

    private Garden g = new Garden();
    private Garden kept;
    private String tape = "";
    /** Of each sheet its row (null: no number) and its sort; no row: missing. */
    private final Integer[][] rows = new Integer[4][];
    private final int[] sorts = new int[4];
    private final Object[] slots = new Object[5];
    private final List<Integer> wait = new ArrayList<>();

    private static boolean out(int v, int least, int most) {
        return v < least || v > most;
    }

    private boolean noButt(int b) {
        return out(b, 0, g.butts.size() - 1);
    }

    private boolean noBed(int b) {
        return out(b, 0, g.beds.size() - 1);
    }

    /** Answers a call by its name, as the document numbers the promises (2 .. 43). */
    int answer(int promise, int a, int b, int c, int d, int e) {
        switch (promise) {
            case 2: return butt(a, b, c);
            case 3: return told(a, b);
            case 4: return noButt(a) || out(b, 0, 9) ? BAD : g.catches(g.butts.get(a), b);
            case 5: return noButt(a) || out(b, 0, 5) ? BAD : g.butts.get(a).isOf(b) ? g.butts.get(a).room : KIND;
            case 6: return turns(a, b);
            case 7: return set(a, b, c);
            case 8: return bed(a);
            case 9: return noBed(a) || out(b, 0, 2) ? BAD : new int[] {g.beds.get(a).wants, g.beds.get(a).had, g.beds.get(a).lacked}[b];
            case 10: return wants(a, b);
            case 11: return deal(a);
            case 12: return seed(a);
            case 13: return rule(a, b);
            case 14: return days(a);
            case 15: return out(a, 0, 6) ? BAD : (int) new long[] {g.fallen, g.drained, g.lost, g.bought, g.holds(), g.had(), g.lacked()}[a];
            case 16: return out(a, 0, 9) ? BAD : g.rain(a);
            case 17: return behind(a, b);
            case 18: return dryBy();
            case 19: return larger(a, b, c);
            case 20: return leave(a, b);
            case 21: return noButt(a) || out(b, 1, 60) ? BAD : lackedIf(a, new int[] {-1, -1, -1, 999}, b) - g.behind(b).lacked();
            case 22: return taps(a);
            case 23: return gauged(a, b, c);
            case 24: return g.law(2) == NONE ? (int) g.bought : g.texts.get(g.law(2)).tree.value((int) g.bought, g.lacked(), 0);
            case 25: return feed(a, b, c);
            case 26: return trim(a);
            case 27: return text();
            case 28: return out(a, 0, g.texts.size() - 1) || out(b, 0, 1) ? BAD : b == 0 ? g.texts.get(a).key : g.texts.get(a).leaves;
            case 29: return out(a, 0, 2) ? BAD : g.law(a);
            case 30: return sheet(a, b, c);
            case 31: return mark(a, b, c);
            case 32: return pour(a);
            case 33: return reads(a);
            case 34: return copy(a, b, c, d, e);
            case 35: return lay(a, b, c);
            case 36: return ask(a, b);
            case 37: return item(a, b);
            case 38: return rest(a, b);
            case 39: return wait.size() == 60 ? FULL : wait.add(a) ? wait.size() : 0;
            case 40: return check(a);
            case 41: kept = g.copy(); return kept.butts.size();
            case 42: return back();
            default: return out(a, 0, 10) ? BAD : new int[] {g.butts.size(), g.beds.size(), g.day, g.wet, g.stays, g.meter,
                g.yesterday, g.texts.size(), wait.size(), tape.length(), g.z}[a];
        }
    }

    private int butt(int kind, int room, int tap) {
        if (out(kind, 0, 5) || out(room, 1, 999) || out(tap, 0, 999)) {
            return BAD;
        }
        if (g.butts.size() == 8) {
            return FULL;
        }
        g.butts.add(new Butt(kind, room, 0, tap));
        return g.butts.size() - 1;
    }

    private int told(int butt, int what) {
        if (noButt(butt) || out(what, 0, 6)) {
            return BAD;
        }
        Butt b = g.butts.get(butt);
        return new int[] {b.kind, b.room, b.holds, b.tap, b.free(), g.loses(b), KINDS[b.kind].worth(b)}[what];
    }

    private int turns(int butt, int kind) {
        if (noButt(butt) || out(kind, 0, 5)) {
            return BAD;
        }
        Butt b = g.butts.get(butt);
        g.butts.set(butt, new Butt(kind, b.room, b.holds, b.tap));
        return b.kind;
    }

    private int set(int butt, int what, int v) {
        if (noButt(butt)) {
            return BAD;
        }
        Butt b = g.butts.get(butt);
        if (what == 1 && v >= 1 && v <= 999 && v >= b.holds) {
            g.butts.set(butt, new Butt(b.kind, v, b.holds, b.tap));
            return b.room;
        }
        if (what == 2 && v >= 0 && v <= b.room) {
            g.butts.set(butt, b.withHolds(v));
            return b.holds;
        }
        if (what == 3 && v >= 0 && v <= 999) {
            g.butts.set(butt, new Butt(b.kind, b.room, b.holds, v));
            return b.tap;
        }
        return BAD;
    }

    private int bed(int wants) {
        if (out(wants, 0, 99)) {
            return BAD;
        }
        if (g.beds.size() == 8) {
            return FULL;
        }
        g.beds.add(new Bed(wants, 0, 0));
        return g.beds.size() - 1;
    }

    private int wants(int bed, int v) {
        if (noBed(bed) || out(v, 0, 99)) {
            return BAD;
        }
        Bed b = g.beds.get(bed);
        g.beds.set(bed, new Bed(v, b.had, b.lacked));
        return b.wants;
    }

    private int deal(int n) {
        if (out(n, 1, 8)) {
            return BAD;
        }
        int came = 0;
        while (came < n && g.butts.size() < 8) {
            int kind = g.draw() % 6;
            int room = g.draw() % 200 + 1;
            g.butts.add(new Butt(kind, room, 0, g.draw() % 10));
            came++;
        }
        return came;
    }

    private int seed(int v) {
        int was = g.z;
        g.z = v;
        return was;
    }

    private int rule(int what, int v) {
        int was = BAD;
        if (what == 0 && !out(v, 0, 100)) {
            was = g.wet;
            g.wet = v;
        } else if (what == 1 && !out(v, 0, 100)) {
            was = g.stays;
            g.stays = v;
        } else if (what == 2 && !out(v, 0, 1)) {
            was = g.meter;
            g.meter = v;
        } else if (what == 3 && !out(v, 0, 1)) {
            was = g.yesterday;
            g.yesterday = v;
        }
        return was;
    }

    private int days(int n) {
        if (out(n, 1, 100)) {
            return BAD;
        }
        int wet = 0;
        for (int i = Math.min(n, 9999 - g.day); i > 0; i--) {
            g.oneDay();
            wet += g.yesterday;
        }
        return wet;
    }

    private int behind(int n, int what) {
        if (out(n, 0, 100) || out(what, 0, 3)) {
            return BAD;
        }
        Garden t = g.behind(n);
        return (int) new long[] {t.holds(), t.lacked(), t.bought, t.drained}[what];
    }

    private int dryBy() {
        Garden t = g.copy();
        for (int k = 0; k <= 300; k++) {
            if (t.firstFree() < 0) {
                return k;
            }
            t.oneDay();
        }
        return NONE;
    }

    /** What is lacked, if a butt had another kind, room, holding or tap (-1: as it is). */
    private int lackedIf(int butt, int[] with, int n) {
        Garden t = g.copy();
        Butt b = t.butts.get(butt);
        t.butts.set(butt, new Butt(with[0] < 0 ? b.kind : with[0], with[1] < 0 ? b.room : with[1],
            with[2] < 0 ? b.holds : with[2], with[3] < 0 ? b.tap : with[3]));
        return t.behind(n).lacked();
    }

    private int larger(int butt, int w, int n) {
        if (noButt(butt) || out(w, 0, 9999) || out(n, 1, 40)) {
            return BAD;
        }
        int room = g.butts.get(butt).room;
        while (room <= 999) {
            if (lackedIf(butt, new int[] {-1, room, -1, -1}, n) <= w) {
                return room;
            }
            room += 10;
        }
        return NONE;
    }

    private int leave(int n, int what) {
        if (out(n, 1, 60) || out(what, 0, 1)) {
            return BAD;
        }
        int[] best = {NONE, NONE};
        for (int i = g.beds.size() - 1; i >= 0; i--) {
            Garden t = g.copy();
            t.beds.set(i, new Bed(0, 0, 0));
            int lacked = t.behind(n).lacked();
            if (best[0] == NONE || lacked <= best[1]) {
                best = new int[] {i, lacked};
            }
        }
        return best[what];
    }

    private int taps(int n) {
        if (out(n, 1, 60)) {
            return BAD;
        }
        int best = NONE;
        int least = 0;
        for (int i = g.butts.size() - 1; i >= 0; i--) {
            int lacked = lackedIf(i, new int[] {-1, -1, -1, 0}, n);
            if (best == NONE || lacked <= least) {
                best = i;
                least = lacked;
            }
        }
        return best;
    }

    private int gauged(int sheet, int butt, int what) {
        if (out(sheet, 0, 3) || noButt(butt) || out(what, 0, 1)) {
            return BAD;
        }
        if (rows[sheet] == null) {
            return NOTHING;
        }
        int[] best = null;
        for (int kind = 5; kind >= 0; kind--) {
            int sum = 0;
            Garden t = g.copy();
            Butt b = t.butts.get(butt);
            t.butts.set(butt, new Butt(kind, b.room, b.holds, b.tap));
            for (int k = 0; k < rows[sheet].length; k++) {
                if (rows[sheet][k] != null) {
                    sum += Math.abs(t.behind(k).butts.get(butt).holds - rows[sheet][k]);
                }
            }
            if (best == null || sum <= best[1]) {
                best = new int[] {kind, sum};
            }
        }
        return best[what];
    }

    private int feed(int... three) {
        if (tape.length() > 84) {
            return FULL;
        }
        StringBuilder s = new StringBuilder(tape);
        for (int v : three) {
            s.append((char) (v >> 24 & 255)).append((char) (v >> 16 & 255)).append((char) (v >> 8 & 255)).append((char) (v & 255));
        }
        tape = s.toString();
        return tape.length();
    }

    private int trim(int n) {
        if (out(n, 0, tape.length())) {
            return BAD;
        }
        tape = tape.substring(0, n);
        return n;
    }

    private int text() {
        String read = tape;
        tape = "";
        try {
            Text t = new Grammar(read).text();
            if (g.texts.size() == 14) {
                return FULL;
            }
            g.texts.add(t);
            return g.texts.size() - 1;
        } catch (Fault f) {
            return -100 - f.place;
        }
    }

    private int sheet(int sheet, int sort, int n) {
        if (out(sheet, 0, 3) || out(sort, -1, 1) || sort != -1 && n > 24) {
            return BAD;
        }
        if (sort == -1) {
            rows[sheet] = null;
            return 0;
        }
        if (n < 0) {
            return SIZE;
        }
        rows[sheet] = new Integer[n];
        Arrays.fill(rows[sheet], 0);
        sorts[sheet] = sort;
        return n;
    }

    private int mark(int sheet, int place, int v) {
        if (out(sheet, 0, 3)) {
            return BAD;
        }
        if (rows[sheet] == null) {
            return NOTHING;
        }
        if (out(place, 0, rows[sheet].length - 1)) {
            return INDEX;
        }
        if (v == NONE && sorts[sheet] == 0) {
            return KIND;
        }
        if (v != NONE && sorts[sheet] == 1 && out(v, -99999, 99999)) {
            return BAD;
        }
        rows[sheet][place] = v == NONE ? null : Integer.valueOf(sorts[sheet] == 0 ? (short) v : v);
        return 1;
    }

    private int pour(int sheet) {
        if (out(sheet, 0, 3)) {
            return BAD;
        }
        if (rows[sheet] == null) {
            return NOTHING;
        }
        int otherwise = 0;
        for (int i = 0; i < g.beds.size(); i++) {
            if (i < rows[sheet].length && rows[sheet][i] != null) {
                int v = Math.max(0, Math.min(99, rows[sheet][i]));
                otherwise += wants(i, v) != v ? 1 : 0;
            }
        }
        return otherwise;
    }

    private int reads(int sheet) {
        if (out(sheet, 0, 3)) {
            return BAD;
        }
        if (rows[sheet] == null) {
            return NOTHING;
        }
        for (int i = 0; i < rows[sheet].length; i++) {
            if (rows[sheet][i] != null && (noButt(i) || g.butts.get(i).holds != rows[sheet][i])) {
                return i;
            }
        }
        return NONE;
    }

    private int copy(int from, int place, int to, int at, int many) {
        if (out(from, 0, 3) || out(to, 0, 3)) {
            return BAD;
        }
        if (rows[from] == null || rows[to] == null) {
            return NOTHING;
        }
        if (sorts[from] != sorts[to]) {
            return KIND;
        }
        if (place < 0 || at < 0 || many < 0 || (long) place + many > rows[from].length || (long) at + many > rows[to].length) {
            return INDEX;
        }
        Integer[] were = Arrays.copyOfRange(rows[from], place, place + many);
        for (int i = 0; i < many; i++) {
            rows[to][at + i] = were[i];
        }
        return many;
    }

    private static int thingOf(Object o) {
        return o == null ? 0 : o instanceof Butt ? 1 : o instanceof Integer[] ? 2 : 3;
    }

    private int lay(int slot, int thing, int k) {
        if (out(slot, 0, 4) || out(thing, 0, 3) || thing == 1 && noButt(k) || thing == 2 && out(k, 0, 3)) {
            return BAD;
        }
        if (thing == 2 && rows[k] == null) {
            return NOTHING;
        }
        int held = thingOf(slots[slot]);
        slots[slot] = thing == 0 ? null : thing == 1 ? g.butts.get(k) : thing == 2 ? rows[k].clone() : (Object) k;
        return held;
    }

    private int ask(int slot, int kind) {
        if (out(slot, 0, 4) || out(kind, 0, 5)) {
            return BAD;
        }
        if (slots[slot] == null) {
            return NOTHING;
        }
        return slots[slot] instanceof Butt b && b.isOf(kind) ? KINDS[b.kind].worth(b) : KIND;
    }

    private int item(int slot, int place) {
        if (out(slot, 0, 4)) {
            return BAD;
        }
        if (slots[slot] == null) {
            return NOTHING;
        }
        if (slots[slot] instanceof Integer[] row) {
            return out(place, 0, row.length - 1) ? INDEX : row[place] == null ? KIND : row[place];
        }
        return KIND;
    }

    private int rest(int slot, int n) {
        if (out(slot, 0, 4)) {
            return BAD;
        }
        if (slots[slot] == null) {
            return NOTHING;
        }
        if (slots[slot] instanceof Integer v) {
            return n == 0 ? NO : (int) ((long) v % n);
        }
        return KIND;
    }

    private int check(int n) {
        List<Integer> were = new ArrayList<>(wait);
        wait.clear();
        if (out(n, 1, 30)) {
            return BAD;
        }
        if (kept == null) {
            return NO;
        }
        List<Integer> right = rightRow(n);
        int same = 0;
        while (same < were.size() && same < right.size() && were.get(same).equals(right.get(same))) {
            same++;
        }
        return same == were.size() && same == right.size() ? 0 : 1 + same;
    }

    /** The row that check asks for; empty where no image is kept. */
    List<Integer> rightRow(int n) {
        List<Integer> right = new ArrayList<>();
        for (int i = 1; kept != null && i <= n && kept.day + i <= 9999; i++) {
            Garden t = kept.behind(i);
            right.add(t.holds());
            right.add(t.lacked());
        }
        return right;
    }

    private int back() {
        if (kept == null) {
            return NO;
        }
        g = kept.copy();
        return g.butts.size();
    }

    /** For the one who draws the calls: how much there is. */
    int buttCount() {
        return g.butts.size();
    }

    int holdsOf(int butt) {
        return noButt(butt) ? 0 : g.butts.get(butt).holds;
    }
}
