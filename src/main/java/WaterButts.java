/**
 * Butts under a roof, one behind the other, the beds they water, the rain that is drawn by lot, and
 * what can be thought of it all ahead of time. Every refusal is an answer; no call throws.
 */
public final class WaterButts {
    public static final int BAD = -1000000001, NO = -1000000002, FULL = -1000000003, NONE = -1000000005, NOTHING = -1000000011, KIND = -1000000012, INDEX = -1000000013, SIZE = -1000000014;

    private static final int BUTTS = 8;
    private static final int BEDS = 8;
    private static final int LAST_DAY = 9999;
    private static final int MOST_GALLONS = 999;
    private static final int MOST_WANTS = 99;

    private static final int KINDS = 6;
    private static final int LIDDED = 1;
    private static final int FLUSHED = 2;
    private static final int RIMMED = 3;
    private static final int FLAP = 4;
    private static final int TANK = 5;
    /** For each KIND the one that it stands under; BUTT stands under none. */
    private static final int[] ABOVE = {-1, 0, 0, LIDDED, FLUSHED, 0};

    private static final int TEXTS = 14;
    private static final int TAPE = 96;
    private static final int KEYS = 3;
    private static final int CATCH = 0;
    private static final int DRY = 1;
    private static final int FINE = 2;
    private static final int NEST = 8;

    private static final int SHEETS = 4;
    private static final int PLACES = 24;
    private static final int MISSING = -1;
    private static final int SHORTS = 0;
    private static final int FLOATS = 1;
    private static final int MOST_FLOAT = 99999;

    private static final int SLOTS = 5;
    private static final int EMPTY = 0;
    private static final int HAS_BUTT = 1;
    private static final int HAS_SHEET = 2;
    private static final int HAS_NUMBER = 3;

    private static final int WAITING = 60;

    private final Texts texts = new Texts();
    private final Garden now = new Garden(texts);
    private final Garden thought = new Garden(texts);
    private final Garden image = new Garden(texts);
    private final Tape tape = new Tape();
    private final Reader reader = new Reader(tape, texts);
    private final Sheet[] sheets = new Sheet[SHEETS];
    private final Slot[] slots = new Slot[SLOTS];
    private final int[] waiting = new int[WAITING];
    private int waitCount;
    private boolean kept;

    public WaterButts() {
        for (int i = 0; i < SHEETS; i++) {
            sheets[i] = new Sheet();
        }
        for (int i = 0; i < SLOTS; i++) {
            slots[i] = new Slot();
        }
    }

    // ---- butts, beds

    public int butt(int kind, int room, int tap) {
        if (!isKind(kind) || !within(room, 1, MOST_GALLONS) || !within(tap, 0, MOST_GALLONS)) {
            return BAD;
        }
        if (now.buttCount >= BUTTS) {
            return FULL;
        }
        now.addButt(kind, room, tap);
        return now.buttCount - 1;
    }

    public int told(int butt, int what) {
        if (!isButt(butt)) {
            return BAD;
        }
        Butt b = now.butts[butt];
        switch (what) {
            case 0: return b.kind;
            case 1: return b.room;
            case 2: return b.holds;
            case 3: return b.tap;
            case 4: return b.drawable();
            case 5: return now.lossOf(b);
            case 6: return b.worth();
            default: return BAD;
        }
    }

    public int catches(int butt, int r) {
        if (!isButt(butt) || !within(r, 0, 9)) {
            return BAD;
        }
        return now.catchOf(now.butts[butt], r);
    }

    public int as(int butt, int kind) {
        if (!isButt(butt) || !isKind(kind)) {
            return BAD;
        }
        Butt b = now.butts[butt];
        return b.isOf(kind) ? b.room : KIND;
    }

    public int turns(int butt, int kind) {
        if (!isButt(butt) || !isKind(kind)) {
            return BAD;
        }
        Butt b = now.butts[butt];
        int was = b.kind;
        b.kind = kind;
        return was;
    }

    public int set(int butt, int what, int v) {
        if (!isButt(butt)) {
            return BAD;
        }
        Butt b = now.butts[butt];
        switch (what) {
            case 1: return setRoom(b, v);
            case 2: return setHolds(b, v);
            case 3: return setTap(b, v);
            default: return BAD;
        }
    }

    private static int setRoom(Butt b, int v) {
        if (!within(v, Math.max(1, b.holds), MOST_GALLONS)) {
            return BAD;
        }
        int was = b.room;
        b.room = v;
        return was;
    }

    private static int setHolds(Butt b, int v) {
        if (!within(v, 0, b.room)) {
            return BAD;
        }
        int was = b.holds;
        b.holds = v;
        return was;
    }

    private static int setTap(Butt b, int v) {
        if (!within(v, 0, MOST_GALLONS)) {
            return BAD;
        }
        int was = b.tap;
        b.tap = v;
        return was;
    }

    public int bed(int wants) {
        if (!within(wants, 0, MOST_WANTS)) {
            return BAD;
        }
        if (now.bedCount >= BEDS) {
            return FULL;
        }
        now.addBed(wants);
        return now.bedCount - 1;
    }

    public int bedTold(int bed, int what) {
        if (!isBed(bed)) {
            return BAD;
        }
        Bed b = now.beds[bed];
        switch (what) {
            case 0: return b.wants;
            case 1: return b.had;
            case 2: return b.lacked;
            default: return BAD;
        }
    }

    public int wants(int bed, int v) {
        if (!isBed(bed) || !within(v, 0, MOST_WANTS)) {
            return BAD;
        }
        Bed b = now.beds[bed];
        int was = b.wants;
        b.wants = v;
        return was;
    }

    public int deal(int n) {
        if (!within(n, 1, BUTTS)) {
            return BAD;
        }
        int came = Math.min(n, BUTTS - now.buttCount);
        for (int i = 0; i < came; i++) {
            int kind = now.draw() % KINDS;
            int room = 1 + now.draw() % 200;
            int tap = now.draw() % 10;
            now.addButt(kind, room, tap);
        }
        return came;
    }

    public int seed(int v) {
        int was = now.z;
        now.z = v;
        return was;
    }

    // ---- days

    public int rule(int what, int v) {
        if (!within(what, 0, 3) || !within(v, 0, what < 2 ? 100 : 1)) {
            return BAD;
        }
        int was;
        switch (what) {
            case 0: was = now.wet; now.wet = v; return was;
            case 1: was = now.stays; now.stays = v; return was;
            case 2: was = now.meter; now.meter = v; return was;
            default: was = now.wetYesterday; now.wetYesterday = v; return was;
        }
    }

    public int days(int n) {
        if (!within(n, 1, 100)) {
            return BAD;
        }
        int wetDays = 0;
        for (int i = 0; i < n && now.day < LAST_DAY; i++) {
            now.passDay();
            wetDays += now.wetYesterday;
        }
        return wetDays;
    }

    public int gallons(int what) {
        switch (what) {
            case 0: return now.fallen;
            case 1: return now.drained;
            case 2: return now.lost;
            case 3: return now.bought;
            case 4: return now.allHold();
            case 5: return now.allHad();
            case 6: return now.allLacked();
            default: return BAD;
        }
    }

    public int pourDown(int r) {
        return within(r, 0, 9) ? now.rainFalls(r) : BAD;
    }

    // ---- what will be

    public int behind(int n, int what) {
        if (!within(n, 0, 100) || !within(what, 0, 3)) {
            return BAD;
        }
        thought.become(now);
        thought.passDays(n);
        switch (what) {
            case 0: return thought.allHold();
            case 1: return thought.allLacked();
            case 2: return thought.bought;
            default: return thought.drained;
        }
    }

    public int dryBy() {
        thought.become(now);
        for (int i = 0; i < 300; i++) {
            if (thought.isDry()) {
                return i;
            }
            thought.passDay();
        }
        return thought.isDry() ? 300 : NONE;
    }

    public int larger(int butt, int w, int n) {
        if (!isButt(butt) || !within(w, 0, 9999) || !within(n, 1, 40)) {
            return BAD;
        }
        for (int room = now.butts[butt].room; room <= MOST_GALLONS; room += 10) {
            if (isEnough(butt, room, w, n)) {
                return room;
            }
        }
        return NONE;
    }

    private boolean isEnough(int butt, int room, int w, int n) {
        thought.become(now);
        thought.butts[butt].room = room;
        // What is lacked never becomes less: one look too many is enough to give a ROOM up.
        for (int i = 0; i < n && thought.allLacked() <= w; i++) {
            thought.passDay();
        }
        return thought.allLacked() <= w;
    }

    public int leave(int n, int what) {
        if (!within(n, 1, 60) || !within(what, 0, 1)) {
            return BAD;
        }
        if (now.bedCount == 0) {
            return NONE;
        }
        int best = 0;
        int least = lackedByOthers(0, n);
        for (int i = 1; i < now.bedCount; i++) {
            int lacked = lackedByOthers(i, n);
            if (lacked < least) {
                best = i;
                least = lacked;
            }
        }
        return what == 0 ? best : least;
    }

    private int lackedByOthers(int bed, int n) {
        thought.become(now);
        thought.beds[bed].wants = 0;
        thought.passDays(n);
        return thought.allLacked() - thought.beds[bed].lacked;
    }

    public int spares(int butt, int n) {
        if (!isButt(butt) || !within(n, 1, 60)) {
            return BAD;
        }
        return lackedWithTap(butt, MOST_GALLONS, n) - lackedWithTap(butt, now.butts[butt].tap, n);
    }

    public int taps(int n) {
        if (!within(n, 1, 60)) {
            return BAD;
        }
        if (now.buttCount == 0) {
            return NONE;
        }
        int best = 0;
        int least = lackedWithTap(0, 0, n);
        for (int i = 1; i < now.buttCount; i++) {
            int lacked = lackedWithTap(i, 0, n);
            if (lacked < least) {
                best = i;
                least = lacked;
            }
        }
        return best;
    }

    private int lackedWithTap(int butt, int tap, int n) {
        thought.become(now);
        thought.butts[butt].tap = tap;
        thought.passDays(n);
        return thought.allLacked();
    }

    public int gauged(int sheet, int butt, int what) {
        if (!isSheet(sheet) || !isButt(butt) || !within(what, 0, 1)) {
            return BAD;
        }
        Sheet gauges = sheets[sheet];
        if (gauges.sort == MISSING) {
            return NOTHING;
        }
        int best = 0;
        int least = differences(gauges, butt, 0);
        for (int kind = 1; kind < KINDS; kind++) {
            int differs = differences(gauges, butt, kind);
            if (differs < least) {
                best = kind;
                least = differs;
            }
        }
        return what == 0 ? best : least;
    }

    private int differences(Sheet gauges, int butt, int kind) {
        thought.become(now);
        Butt b = thought.butts[butt];
        b.kind = kind;
        int sum = 0;
        for (int k = 0; k < gauges.size; k++) {
            if (k > 0) {
                thought.passDay();
            }
            if (gauges.places[k] != NONE) {
                sum += Math.abs(b.holds - gauges.places[k]);
            }
        }
        return sum;
    }

    public int fine() {
        int text = now.counting[FINE];
        return text == NONE ? now.bought : texts.gives(text, now.bought, now.allLacked(), 0);
    }

    // ---- texts

    public int feed(int a, int b, int c) {
        if (tape.count + 12 > TAPE) {
            return FULL;
        }
        tape.take(a);
        tape.take(b);
        tape.take(c);
        return tape.count;
    }

    public int trim(int n) {
        if (!within(n, 0, tape.count)) {
            return BAD;
        }
        tape.count = n;
        return n;
    }

    public int text() {
        int text = now.textCount;
        boolean understood = reader.readsInto(text);
        int fault = tape.start;
        tape.count = 0;
        if (!understood) {
            return -100 - fault;
        }
        if (text >= TEXTS) {
            return FULL;
        }
        now.counting[texts.keys[text]] = text;
        now.textCount = text + 1;
        return text;
    }

    public int textTold(int text, int what) {
        if (!within(text, 0, now.textCount - 1) || !within(what, 0, 1)) {
            return BAD;
        }
        return what == 0 ? texts.keys[text] : texts.leaves[text];
    }

    public int why(int key) {
        return within(key, 0, KEYS - 1) ? now.counting[key] : BAD;
    }

    // ---- sheets, slots

    public int sheet(int sheet, int sort, int n) {
        if (!isSheet(sheet) || !within(sort, MISSING, FLOATS)) {
            return BAD;
        }
        if (sort == MISSING) {
            sheets[sheet].clear(MISSING, 0);
            return 0;
        }
        if (n > PLACES) {
            return BAD;
        }
        if (n < 0) {
            return SIZE;
        }
        sheets[sheet].clear(sort, n);
        return n;
    }

    public int mark(int sheet, int place, int v) {
        if (!isSheet(sheet)) {
            return BAD;
        }
        Sheet s = sheets[sheet];
        if (s.sort == MISSING) {
            return NOTHING;
        }
        if (!within(place, 0, s.size - 1)) {
            return INDEX;
        }
        if (s.sort == SHORTS) {
            if (v == NONE) {
                return KIND;
            }
            s.places[place] = (short) v;
            return 1;
        }
        if (v != NONE && !within(v, -MOST_FLOAT, MOST_FLOAT)) {
            return BAD;
        }
        s.places[place] = v;
        return 1;
    }

    public int pour(int sheet) {
        if (!isSheet(sheet)) {
            return BAD;
        }
        Sheet s = sheets[sheet];
        if (s.sort == MISSING) {
            return NOTHING;
        }
        int changed = 0;
        for (int i = 0; i < s.size && i < now.bedCount; i++) {
            if (s.places[i] != NONE) {
                int v = held(s.places[i], MOST_WANTS);
                changed += v != now.beds[i].wants ? 1 : 0;
                now.beds[i].wants = v;
            }
        }
        return changed;
    }

    public int reads(int sheet) {
        if (!isSheet(sheet)) {
            return BAD;
        }
        Sheet s = sheets[sheet];
        if (s.sort == MISSING) {
            return NOTHING;
        }
        for (int i = 0; i < s.size; i++) {
            boolean right = i < now.buttCount && s.places[i] == now.butts[i].holds;
            if (s.places[i] != NONE && !right) {
                return i;
            }
        }
        return NONE;
    }

    public int copy(int from, int place, int to, int at, int many) {
        if (!isSheet(from) || !isSheet(to)) {
            return BAD;
        }
        Sheet source = sheets[from];
        Sheet target = sheets[to];
        if (source.sort == MISSING || target.sort == MISSING) {
            return NOTHING;
        }
        if (source.sort != target.sort) {
            return KIND;
        }
        if (!source.hasPlaces(place, many) || !target.hasPlaces(at, many)) {
            return INDEX;
        }
        System.arraycopy(source.places, place, target.places, at, many);
        return many;
    }

    public int lay(int slot, int thing, int k) {
        if (!isSlot(slot) || !within(thing, EMPTY, HAS_NUMBER)) {
            return BAD;
        }
        if ((thing == HAS_BUTT && !isButt(k)) || (thing == HAS_SHEET && !isSheet(k))) {
            return BAD;
        }
        if (thing == HAS_SHEET && sheets[k].sort == MISSING) {
            return NOTHING;
        }
        Slot s = slots[slot];
        int held = s.thing;
        s.thing = thing;
        switch (thing) {
            case HAS_BUTT: s.butt.become(now.butts[k]); break;
            case HAS_SHEET: s.sheet.become(sheets[k]); break;
            case HAS_NUMBER: s.number = k; break;
            default: break;
        }
        return held;
    }

    public int ask(int slot, int kind) {
        if (!isSlot(slot) || !isKind(kind)) {
            return BAD;
        }
        Slot s = slots[slot];
        if (s.thing != HAS_BUTT) {
            return s.otherThing();
        }
        return s.butt.isOf(kind) ? s.butt.worth() : KIND;
    }

    public int item(int slot, int place) {
        if (!isSlot(slot)) {
            return BAD;
        }
        Slot s = slots[slot];
        if (s.thing != HAS_SHEET) {
            return s.otherThing();
        }
        if (!within(place, 0, s.sheet.size - 1)) {
            return INDEX;
        }
        int v = s.sheet.places[place];
        return v == NONE ? KIND : v;
    }

    public int rest(int slot, int n) {
        if (!isSlot(slot)) {
            return BAD;
        }
        Slot s = slots[slot];
        if (s.thing != HAS_NUMBER) {
            return s.otherThing();
        }
        return n == 0 ? NO : s.number % n;
    }

    // ---- rows, images

    public int tell(int v) {
        if (waitCount >= WAITING) {
            return FULL;
        }
        waiting[waitCount] = v;
        waitCount++;
        return waitCount;
    }

    public int check(int n) {
        int waited = waitCount;
        waitCount = 0;
        if (!within(n, 1, 30)) {
            return BAD;
        }
        if (!kept) {
            return NO;
        }
        thought.become(image);
        int told = 0;
        for (int i = 0; i < n && thought.day < LAST_DAY; i++) {
            thought.passDay();
            if (told >= waited || waiting[told] != thought.allHold()) {
                return 1 + told;
            }
            told++;
            if (told >= waited || waiting[told] != thought.allLacked()) {
                return 1 + told;
            }
            told++;
        }
        return waited > told ? 1 + told : 0;
    }

    public int keep() {
        image.become(now);
        kept = true;
        return image.buttCount;
    }

    public int back() {
        if (!kept) {
            return NO;
        }
        now.become(image);
        return now.buttCount;
    }

    public int count(int what) {
        switch (what) {
            case 0: return now.buttCount;
            case 1: return now.bedCount;
            case 2: return now.day;
            case 3: return now.wet;
            case 4: return now.stays;
            case 5: return now.meter;
            case 6: return now.wetYesterday;
            case 7: return now.textCount;
            case 8: return waitCount;
            case 9: return tape.count;
            case 10: return now.z;
            default: return BAD;
        }
    }

    // ---- bounds

    private static boolean within(int v, int least, int most) {
        return v >= least && v <= most;
    }

    private static int held(int v, int most) {
        return Math.max(0, Math.min(v, most));
    }

    private static boolean isKind(int kind) {
        return within(kind, 0, KINDS - 1);
    }

    private static boolean isSheet(int sheet) {
        return within(sheet, 0, SHEETS - 1);
    }

    private static boolean isSlot(int slot) {
        return within(slot, 0, SLOTS - 1);
    }

    private boolean isButt(int butt) {
        return within(butt, 0, now.buttCount - 1);
    }

    private boolean isBed(int bed) {
        return within(bed, 0, now.bedCount - 1);
    }

    /** A butt, and what its KIND makes of what a plain BUTT would do. */
    private static final class Butt {
        int kind;
        int room;
        int holds;
        int tap;

        Butt() {
        }

        void become(Butt other) {
            kind = other.kind;
            room = other.room;
            holds = other.holds;
            tap = other.tap;
        }

        boolean isOf(int wanted) {
            int k = kind;
            for (int i = 0; i < KINDS && k >= 0; i++) {
                if (k == wanted) {
                    return true;
                }
                k = ABOVE[k];
            }
            return false;
        }

        int drawable() {
            return Math.max(0, holds - tap);
        }

        int catchOf(int asButt) {
            switch (kind) {
                case LIDDED: return asButt / 2;
                case RIMMED: return 0;
                case FLUSHED: return Math.max(0, asButt - 5);
                case FLAP: return Math.max(0, Math.max(0, asButt - 5) - 5);
                case TANK: return asButt * 2;
                default: return asButt;
            }
        }

        int lossOf(int asButt) {
            switch (kind) {
                case LIDDED: return 0;
                case RIMMED: return 0;
                case TANK: return asButt / 2;
                default: return asButt;
            }
        }

        int worth() {
            switch (kind) {
                case LIDDED: return room + 9;
                case RIMMED: return (room + 9) * 2;
                case FLUSHED: return MOST_GALLONS - room;
                case FLAP: return MOST_GALLONS - room - 7;
                case TANK: return holds;
                default: return room;
            }
        }
    }

    private static final class Bed {
        int wants;
        int had;
        int lacked;

        Bed() {
        }

        void become(Bed other) {
            wants = other.wants;
            had = other.had;
            lacked = other.lacked;
        }
    }

    /**
     * All that an image keeps. The texts themselves are shared: a garden that is kept knows how many
     * of them there were and which ones counted, and texts told later only stand behind those.
     */
    private static final class Garden {
        final Texts texts;
        final Butt[] butts = new Butt[BUTTS];
        final Bed[] beds = new Bed[BEDS];
        final int[] counting = new int[KEYS];
        int buttCount;
        int bedCount;
        int textCount;
        int wet = 30;
        int stays = 60;
        int meter;
        int wetYesterday;
        int fallen;
        int drained;
        int lost;
        int bought;
        int day;
        int z = 1;

        Garden(Texts texts) {
            this.texts = texts;
            for (int i = 0; i < BUTTS; i++) {
                butts[i] = new Butt();
            }
            for (int i = 0; i < BEDS; i++) {
                beds[i] = new Bed();
            }
            for (int i = 0; i < KEYS; i++) {
                counting[i] = NONE;
            }
        }

        void become(Garden other) {
            buttCount = other.buttCount;
            bedCount = other.bedCount;
            textCount = other.textCount;
            wet = other.wet;
            stays = other.stays;
            meter = other.meter;
            wetYesterday = other.wetYesterday;
            fallen = other.fallen;
            drained = other.drained;
            lost = other.lost;
            bought = other.bought;
            day = other.day;
            z = other.z;
            for (int i = 0; i < buttCount; i++) {
                butts[i].become(other.butts[i]);
            }
            for (int i = 0; i < bedCount; i++) {
                beds[i].become(other.beds[i]);
            }
            System.arraycopy(other.counting, 0, counting, 0, KEYS);
        }

        void addButt(int kind, int room, int tap) {
            if (buttCount < BUTTS) {
                Butt b = butts[buttCount];
                b.kind = kind;
                b.room = room;
                b.holds = 0;
                b.tap = tap;
                buttCount++;
            }
        }

        void addBed(int wants) {
            if (bedCount < BEDS) {
                Bed b = beds[bedCount];
                b.wants = wants;
                b.had = 0;
                b.lacked = 0;
                bedCount++;
            }
        }

        int draw() {
            z = z * 1103515245 + 12345;
            return z >>> 8;
        }

        void passDays(int n) {
            for (int i = 0; i < n; i++) {
                passDay();
            }
        }

        void passDay() {
            int x = draw() % 100;
            boolean isWet = x < (wetYesterday == 1 ? stays : wet);
            int r = isWet ? 1 + draw() % 9 : 0;
            wetYesterday = isWet ? 1 : 0;
            rainFalls(r);
            buttsLose();
            bedsDraw();
            day++;
        }

        /** What ran down the drain. */
        int rainFalls(int r) {
            int over = 0;
            for (int i = 0; i < buttCount; i++) {
                Butt b = butts[i];
                int caught = catchOf(b, r);
                fallen += caught;
                int all = b.holds + caught + over;
                b.holds = Math.min(all, b.room);
                over = all - b.holds;
            }
            drained += over;
            return over;
        }

        int catchOf(Butt b, int r) {
            int text = counting[CATCH];
            int asButt = text == NONE ? 10 * r : held(texts.gives(text, r, b.room, b.holds), MOST_GALLONS);
            return b.catchOf(asButt);
        }

        void buttsLose() {
            for (int i = 0; i < buttCount; i++) {
                Butt b = butts[i];
                int loses = lossOf(b);
                b.holds -= loses;
                lost += loses;
            }
        }

        int lossOf(Butt b) {
            int text = counting[DRY];
            int asButt = text == NONE ? b.holds / 50 + 1 : texts.gives(text, b.holds, b.room, day);
            return b.lossOf(held(asButt, b.holds));
        }

        void bedsDraw() {
            for (int i = 0; i < bedCount; i++) {
                Bed bed = beds[i];
                int missing = bed.wants - drawn(bed.wants);
                bed.had += bed.wants - missing;
                if (meter == 1) {
                    bought += missing;
                    bed.had += missing;
                } else {
                    bed.lacked += missing;
                }
            }
        }

        int drawn(int wanted) {
            int missing = wanted;
            for (int i = 0; i < buttCount && missing > 0; i++) {
                int part = Math.min(missing, butts[i].drawable());
                butts[i].holds -= part;
                missing -= part;
            }
            return wanted - missing;
        }

        boolean isDry() {
            for (int i = 0; i < buttCount; i++) {
                if (butts[i].drawable() > 0) {
                    return false;
                }
            }
            return true;
        }

        int allHold() {
            int sum = 0;
            for (int i = 0; i < buttCount; i++) {
                sum += butts[i].holds;
            }
            return sum;
        }

        int allHad() {
            int sum = 0;
            for (int i = 0; i < bedCount; i++) {
                sum += beds[i].had;
            }
            return sum;
        }

        int allLacked() {
            int sum = 0;
            for (int i = 0; i < bedCount; i++) {
                sum += beds[i].lacked;
            }
            return sum;
        }
    }

    /**
     * The texts, each as steps that work on a stack: numbers and names put one more value on it, signs
     * work on the topmost ones. The row behind the last text is there so that a tape can be looked
     * through for its fault when no text can be added any more.
     */
    private static final class Texts {
        /** Steps below NAMED are numbers, those from SIGNED on signs, the others names. */
        static final int NAMED = 10000;
        static final int SIGNED = 20000;

        final int[][] steps = new int[TEXTS + 1][TAPE];
        final int[] sizes = new int[TEXTS + 1];
        final int[] keys = new int[TEXTS + 1];
        final int[] leaves = new int[TEXTS + 1];
        final int[] stack = new int[TAPE];

        Texts() {
        }

        void begin(int text, int key) {
            keys[text] = key;
            sizes[text] = 0;
            leaves[text] = 0;
        }

        void addLeaf(int text, int step) {
            leaves[text]++;
            addStep(text, step);
        }

        void addStep(int text, int step) {
            if (sizes[text] < TAPE) {
                steps[text][sizes[text]] = step;
                sizes[text]++;
            }
        }

        /** What a text gives, with the values of its names in the order of NAMES. */
        int gives(int text, int first, int second, int third) {
            int[] row = steps[text];
            int size = sizes[text];
            int top = 0;
            for (int i = 0; i < size; i++) {
                int step = row[i];
                if (step < SIGNED) {
                    if (top < TAPE) {
                        stack[top] = leaf(step, first, second, third);
                        top++;
                    }
                } else if (step == SIGNED + '!') {
                    if (top > 0) {
                        stack[top - 1] = stack[top - 1] == 0 ? 1 : 0;
                    }
                } else if (top > 1) {
                    top--;
                    stack[top - 1] = joined(step - SIGNED, stack[top - 1], stack[top]);
                }
            }
            return top > 0 ? stack[0] : 0;
        }

        static int leaf(int step, int first, int second, int third) {
            switch (step - NAMED) {
                case 0: return first;
                case 1: return second;
                case 2: return third;
                default: return step;
            }
        }

        static int joined(int sign, int a, int b) {
            switch (sign) {
                case '|': return a != 0 || b != 0 ? 1 : 0;
                case '&': return a != 0 && b != 0 ? 1 : 0;
                case '<': return a < b ? 1 : 0;
                case '=': return a == b ? 1 : 0;
                case '>': return a > b ? 1 : 0;
                case '+': return a + b;
                case '-': return a - b;
                case '*': return a * b;
                default: return b == 0 ? 0 : a / b;
            }
        }
    }

    /** The tape, and the word or sign of it that is looked at. */
    private static final class Tape {
        static final int END = 0;
        static final int LETTERS = 1;
        static final int DIGITS = 2;
        static final int SIGN = 3;
        /** A word that needs a blank ahead of it and has none: nothing goes on with it. */
        static final int GLUED = 4;

        final int[] bytes = new int[TAPE];
        int count;
        int sort;
        int start;
        int end;

        Tape() {
        }

        void take(int v) {
            for (int shift = 24; shift >= 0 && count < TAPE; shift -= 8) {
                bytes[count] = (v >>> shift) & 255;
                count++;
            }
        }

        void rewind() {
            sort = END;
            end = 0;
            step();
        }

        void step() {
            boolean behindWord = sort == LETTERS || sort == DIGITS || sort == GLUED;
            int behind = end;
            start = end;
            while (start < count && bytes[start] == ' ') {
                start++;
            }
            end = start;
            if (start >= count) {
                sort = END;
                return;
            }
            sort = sortOf(bytes[start]);
            if (sort == SIGN) {
                end++;
                return;
            }
            while (end < count && sortOf(bytes[end]) == sort) {
                end++;
            }
            if (behindWord && start == behind) {
                sort = GLUED;
            }
        }

        static int sortOf(int b) {
            if (within(b, 'a', 'z')) {
                return LETTERS;
            }
            return within(b, '0', '9') ? DIGITS : SIGN;
        }

        int length() {
            return end - start;
        }

        /** The sign that is looked at, or NONE. */
        int sign() {
            return sort == SIGN && start < count ? bytes[start] : NONE;
        }

        /** The number that is looked at, or NONE, if it is none or too long for one. */
        int number() {
            if (sort != DIGITS || length() > 4) {
                return NONE;
            }
            int v = 0;
            for (int i = start; i < end && i < count; i++) {
                v = v * 10 + bytes[i] - '0';
            }
            return v;
        }

        /** The place of the letter that is looked at among names, or NONE. */
        int nameAmong(String names) {
            if (sort != LETTERS || length() != 1 || start >= count) {
                return NONE;
            }
            int place = names.indexOf((char) bytes[start]);
            return place < 0 ? NONE : place;
        }

        boolean isWord(String word) {
            if (sort != LETTERS || length() != word.length()) {
                return false;
            }
            for (int i = 0; i < word.length() && start + i < count; i++) {
                if (bytes[start + i] != word.charAt(i)) {
                    return false;
                }
            }
            return true;
        }
    }

    /** Reads the tape as a text. Where it stops with false, the tape looks at the fault. */
    private static final class Reader {
        static final int TESTS = 2;
        static final int PIECES = 5;

        final Tape tape;
        final Texts texts;
        int text;
        String names = "";

        Reader(Tape tape, Texts texts) {
            this.tape = tape;
            this.texts = texts;
        }

        boolean readsInto(int row) {
            text = held(row, TEXTS);
            tape.rewind();
            if (tape.isWord("catch")) {
                begin(CATCH, "rsh");
            } else if (tape.isWord("dry")) {
                begin(DRY, "hsd");
            } else if (tape.isWord("fine")) {
                begin(FINE, "bl");
            } else {
                return false;
            }
            return readsLevel(0, 0, 0) && tape.sort == Tape.END;
        }

        void begin(int key, String itsNames) {
            texts.begin(text, key);
            names = itsNames;
            tape.step();
        }

        /** Levels go from the loosest, OR, down to PIECES; parens and nots are those open around it. */
        private boolean readsLevel(int level, int parens, int nots) {
            if (level >= PIECES) {
                return readsPiece(parens, nots);
            }
            if (!readsLevel(level + 1, parens, nots)) {
                return false;
            }
            int most = level == TESTS ? 1 : TAPE;
            for (int i = 0; i < most && levelOf(tape.sign()) == level; i++) {
                int sign = tape.sign();
                tape.step();
                if (!readsLevel(level + 1, parens, nots)) {
                    return false;
                }
                texts.addStep(text, Texts.SIGNED + sign);
            }
            return true;
        }

        static int levelOf(int sign) {
            switch (sign) {
                case '|': return 0;
                case '&': return 1;
                case '<': return TESTS;
                case '=': return TESTS;
                case '>': return TESTS;
                case '+': return 3;
                case '-': return 3;
                case '*': return 4;
                case '/': return 4;
                default: return PIECES;
            }
        }

        private boolean readsPiece(int parens, int nots) {
            if (tape.sign() == '!') {
                return nots < NEST && readsNot(parens, nots + 1);
            }
            if (tape.sign() == '(') {
                return parens < NEST && readsParens(parens + 1, nots);
            }
            int number = tape.number();
            int name = tape.nameAmong(names);
            if (number == NONE && name == NONE) {
                return false;
            }
            texts.addLeaf(text, number != NONE ? number : Texts.NAMED + name);
            tape.step();
            return true;
        }

        private boolean readsNot(int parens, int nots) {
            tape.step();
            if (!readsPiece(parens, nots)) {
                return false;
            }
            texts.addStep(text, Texts.SIGNED + '!');
            return true;
        }

        private boolean readsParens(int parens, int nots) {
            tape.step();
            if (!readsLevel(0, parens, nots) || tape.sign() != ')') {
                return false;
            }
            tape.step();
            return true;
        }
    }

    /** A row of shorts or floats; NONE at a place is NO NUMBER, which no number of either sort can be. */
    private static final class Sheet {
        final int[] places = new int[PLACES];
        int sort = MISSING;
        int size;

        Sheet() {
        }

        void clear(int newSort, int newSize) {
            sort = newSort;
            size = newSize;
            for (int i = 0; i < PLACES; i++) {
                places[i] = 0;
            }
        }

        void become(Sheet other) {
            sort = other.sort;
            size = other.size;
            System.arraycopy(other.places, 0, places, 0, PLACES);
        }

        boolean hasPlaces(int from, int many) {
            return within(many, 0, size) && within(from, 0, size - many);
        }
    }

    /** A slot has a butt, a row and a number of its own; thing says which of them it holds. */
    private static final class Slot {
        final Butt butt = new Butt();
        final Sheet sheet = new Sheet();
        int thing = EMPTY;
        int number;

        Slot() {
        }

        /** The finding, where the slot does not hold the thing that is asked for. */
        int otherThing() {
            return thing == EMPTY ? NOTHING : KIND;
        }
    }
}
