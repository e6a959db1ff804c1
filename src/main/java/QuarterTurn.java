/**
 * A quarter turn more: joints under a sink, in a row, that drip. What every call answers is told by
 * the document (../shared/DOC.md); words in capitals are the document's.
 */
public final class QuarterTurn {
    public static final int BAD = -1000000001, NO = -1000000002, FULL = -1000000003, NONE = -1000000005,
            NOTHING = -1000000011, KIND = -1000000012, INDEX = -1000000013, SIZE = -1000000014;

    private static final int HARD = 1, ASLANT = 2, PINCHED = 3, DIRTY = 4, CRACKED = 5, KINDS = 6;
    /** The KIND that each KIND stands under. */
    private static final int[] UNDER = {-1, 0, 0, HARD, ASLANT, 0};

    private static final int JOINTS = 8, TIGHTEST = 40, HOURS = 9999, AHEAD = 200;
    private static final int TEXTS = 14, BYTES = 96, KEYS = 3, LEAK = 0, FEE = 1, FINE = 2;
    private static final int SHEETS = 4, PLACES = 24, MISSING = -1, SHORTS = 0, FLOATS = 1;
    private static final int SLOTS = 5, A_JOINT = 1, A_SHEET = 2, A_NUMBER = 3, WAITING = 60;

    private final Laws laws = new Laws();
    private final Reader reader = new Reader();
    private final Pipe now = new Pipe(laws);
    private final Pipe image = new Pipe(laws);
    /** All that is only thought happens here, so that nothing changes and nothing is made anew. */
    private final Pipe thought = new Pipe(laws);
    private final Least least = new Least();
    private boolean imaged;
    private final Sheet[] sheets = new Sheet[SHEETS];
    private final Slot[] slots = new Slot[SLOTS];
    private final int[] waiting = new int[WAITING];
    private int waits;

    public QuarterTurn() {
        for (int i = 0; i < SHEETS; i++) sheets[i] = new Sheet();
        for (int i = 0; i < SLOTS; i++) slots[i] = new Slot();
    }

    // ---- joints

    public int joint(int kind, int tight, int ring, int high) {
        if (!isKind(kind) || !within(tight, TIGHTEST) || !within(ring, 40) || !within(high, 9)) return BAD;
        return now.add(kind, tight, ring, high);
    }

    public int told(int joint, int what) {
        if (!now.has(joint)) return BAD;
        Joint it = now.joints[joint];
        switch (what) {
            case 0: return it.kind;
            case 1: return it.tight;
            case 7: return it.swollen;
            case 8: return it.grip(now.hot);
            case 9: return now.leaks(it);
            case 10: return it.bears();
            case 11: return now.hangsAt(joint);
            case 12: return it.worth();
            default: return canBeSet(what) ? it.given(what) : BAD;
        }
    }

    public int as(int joint, int kind) {
        if (!now.has(joint) || !isKind(kind)) return BAD;
        Joint it = now.joints[joint];
        return isOf(it.kind, kind) ? it.tight : KIND;
    }

    public int turns(int joint, int kind) {
        if (!now.has(joint) || !isKind(kind)) return BAD;
        Joint it = now.joints[joint];
        int was = it.kind;
        it.kind = kind;
        return was;
    }

    public int set(int joint, int what, int v) {
        if (!now.has(joint) || !canBeSet(what) || !within(v, what == 2 ? 40 : 9)) return BAD;
        Joint it = now.joints[joint];
        int was = it.given(what);
        it.give(what, v);
        return was;
    }

    public int turn(int joint, int n) {
        if (!now.has(joint) || n < -9 || n > 9 || n == 0) return BAD;
        Joint it = now.joints[joint];
        if (n < 0) it.tighten(n);
        for (int i = 0; i < n; i++) now.quarterMore(it);
        return it.tight;
    }

    public int rule(int what, int v) {
        if (!within(what, 2) || !within(v, what == 0 ? 1 : what == 1 ? 100 : 9999)) return BAD;
        int was;
        if (what == 0) {
            was = now.hot;
            now.hot = v;
        } else if (what == 1) {
            was = now.shake;
            now.shake = v;
        } else {
            was = now.pot;
            now.pot = v;
        }
        return was;
    }

    public int empty() {
        int was = now.in;
        now.in = 0;
        return was;
    }

    public int deal(int n) {
        if (n < 1 || n > JOINTS) return BAD;
        int come = Math.min(n, JOINTS - now.many);
        for (int i = 0; i < come; i++) {
            int kind = now.draw() % KINDS;
            int tight = now.draw() % 20;
            int ring = now.draw() % 30;
            int high = now.draw() % 10;
            now.add(kind, tight, ring, high);
        }
        return come;
    }

    public int seed(int v) {
        int was = now.z;
        now.z = v;
        return was;
    }

    // ---- hours

    public int hours(int n) {
        if (n < 1 || n > 100) return BAD;
        int was = now.drops;
        now.passHours(Math.min(n, HOURS - now.hour));
        return now.drops - was;
    }

    public int sink(int what) {
        switch (what) {
            case 0: return now.drops;
            case 1: return now.in;
            case 2: return now.flood;
            case 3: return now.cracks;
            case 4: return now.shaken;
            case 5: return now.hot;
            case 6: return now.leaksOfAll();
            case 7: return now.crackedOnes();
            case 8: return now.tightOfAll();
            default: return BAD;
        }
    }

    public int seen(int joint) {
        if (!now.has(joint)) return BAD;
        int all = 0;
        for (int i = 0; i < now.many; i++) {
            if (now.hangsAt(i) == joint) all += now.leaks(now.joints[i]);
        }
        return all;
    }

    public int from(int joint) {
        if (!now.has(joint)) return BAD;
        int ones = 0;
        for (int i = 0; i < now.many; i++) {
            if (now.hangsAt(i) == joint) ones |= 1 << i;
        }
        return ones;
    }

    // ---- what will be

    public int quarter(int joint, int what) {
        if (!now.has(joint) || !within(what, 1)) return BAD;
        least.begin();
        for (int n = -9; n <= 9; n++) {
            thought.takeFrom(now);
            thought.joints[joint].tighten(n);
            least.look(n, thought.leaksOfAll());
        }
        return least.found(what);
    }

    public int behind(int n, int what) {
        if (!within(n, 100) || what < 0 || what > 2 && !now.has(what - 3)) return BAD;
        thought.takeFrom(now);
        thought.passHours(n);
        switch (what) {
            case 0: return thought.drops;
            case 1: return thought.flood;
            case 2: return thought.in;
            default: return thought.leaks(thought.joints[what - 3]);
        }
    }

    public int full() {
        thought.takeFrom(now);
        for (int h = 0; h <= AHEAD; h++) {
            if (thought.in >= thought.pot) return h;
            thought.passHour();
        }
        return NONE;
    }

    public int shut(int joint) {
        if (!now.has(joint)) return BAD;
        thought.takeFrom(now);
        for (int h = 0; h <= AHEAD; h++) {
            if (thought.leaks(thought.joints[joint]) == 0) return h;
            thought.passHour();
        }
        return NONE;
    }

    public int mend(int joint, int n, int what) {
        if (!now.has(joint) || !isSpan(n) || !within(what, 1)) return BAD;
        least.begin();
        for (int way = 0; way <= 3; way++) {
            thought.takeFrom(now);
            thought.joints[joint].mendBy(way);
            thought.passHours(n);
            least.look(way, thought.drops);
        }
        return least.found(what);
    }

    public int first(int n, int what) {
        if (!isSpan(n) || !within(what, 1)) return BAD;
        least.begin();
        for (int i = 0; i < now.many; i++) {
            thought.takeFrom(now);
            thought.joints[i].tighten(1);
            thought.passHours(n);
            least.look(i, thought.drops);
        }
        return least.found(what);
    }

    public int becomes(int joint, int n, int what) {
        if (!now.has(joint) || !isSpan(n) || !within(what, 1)) return BAD;
        least.begin();
        for (int kind = 0; kind < KINDS; kind++) {
            thought.takeFrom(now);
            thought.joints[joint].kind = kind;
            thought.passHours(n);
            least.look(kind, thought.drops);
        }
        return least.found(what);
    }

    public int loose(int n, int what) {
        if (!isSpan(n) || !within(what, 1)) return BAD;
        least.begin();
        for (int i = 0; i < now.many; i++) {
            thought.takeFrom(now);
            thought.joints[i].tighten(-1);
            thought.passHours(n);
            least.look(i, thought.tightOfAll());
        }
        return least.found(what);
    }

    public int whose(int sheet, int what) {
        if (!isSheet(sheet) || !within(what, 1)) return BAD;
        Sheet row = sheets[sheet];
        if (row.isMissing()) return NOTHING;
        least.begin();
        for (int i = 0; i < now.many; i++) least.look(i, apartFrom(row, i));
        return least.found(what);
    }

    public int fee() {
        int counts = now.counting[FEE];
        return counts < 0 ? now.drops : laws.gives(counts, now.drops, now.flood, 0);
    }

    public int fine(int joint) {
        if (!now.has(joint)) return BAD;
        Joint it = now.joints[joint];
        int counts = now.counting[FINE];
        return counts < 0 ? it.tight : laws.gives(counts, it.tight, it.swollen, 0);
    }

    // ---- texts

    public int feed(int a, int b, int c) {
        if (reader.length > BYTES - 12) return FULL;
        reader.append(a);
        reader.append(b);
        reader.append(c);
        return reader.length;
    }

    public int trim(int n) {
        if (!within(n, reader.length)) return BAD;
        reader.length = n;
        return n;
    }

    public int text() {
        int fault = reader.faultOfTape();
        reader.length = 0;
        if (fault != NONE) return -100 - fault;
        int number = now.texts;
        if (!within(number, TEXTS - 1)) return FULL;
        laws.texts[number].takeFrom(reader.draft);
        now.counting[reader.draft.key] = number;
        now.texts = number + 1;
        return number;
    }

    public int textTold(int text, int what) {
        if (text < 0 || text >= now.texts || !within(what, 1)) return BAD;
        Text it = laws.texts[text];
        return what == 0 ? it.key : it.pieces;
    }

    public int why(int key) {
        if (key < 0 || key >= KEYS) return BAD;
        int counts = now.counting[key];
        return counts < 0 ? NONE : counts;
    }

    // ---- sheets, slots

    public int sheet(int sheet, int sort, int n) {
        if (!isSheet(sheet) || sort < MISSING || sort > FLOATS) return BAD;
        if (sort == MISSING) {
            sheets[sheet].become(MISSING, 0);
            return 0;
        }
        if (n > PLACES) return BAD;
        if (n < 0) return SIZE;
        sheets[sheet].become(sort, n);
        return n;
    }

    public int mark(int sheet, int place, int v) {
        if (!isSheet(sheet)) return BAD;
        Sheet row = sheets[sheet];
        if (row.isMissing()) return NOTHING;
        if (!row.has(place)) return INDEX;
        if (row.sort == SHORTS) {
            if (v == NONE) return KIND;
            row.places[place] = (short) v;
        } else {
            if (v != NONE && (v < -99999 || v > 99999)) return BAD;
            row.places[place] = v;
        }
        return 1;
    }

    public int pour(int sheet) {
        if (!isSheet(sheet)) return BAD;
        Sheet row = sheets[sheet];
        if (row.isMissing()) return NOTHING;
        int otherwise = 0;
        for (int i = 0; i < now.many && i < row.size; i++) {
            int tight = held(row.places[i], TIGHTEST);
            if (row.isNumber(i) && now.joints[i].tight != tight) {
                now.joints[i].tight = tight;
                otherwise++;
            }
        }
        return otherwise;
    }

    public int reads(int sheet) {
        if (!isSheet(sheet)) return BAD;
        Sheet row = sheets[sheet];
        if (row.isMissing()) return NOTHING;
        for (int i = 0; i < row.size; i++) {
            if (row.isNumber(i) && (!now.has(i) || row.places[i] != now.leaks(now.joints[i]))) return i;
        }
        return NONE;
    }

    public int copy(int from, int place, int to, int at, int many) {
        if (!isSheet(from) || !isSheet(to)) return BAD;
        Sheet here = sheets[from], there = sheets[to];
        if (here.isMissing() || there.isMissing()) return NOTHING;
        if (here.sort != there.sort) return KIND;
        if (!here.hasRow(place, many) || !there.hasRow(at, many)) return INDEX;
        System.arraycopy(here.places, place, there.places, at, many);
        return many;
    }

    public int lay(int slot, int thing, int k) {
        if (!isSlot(slot) || !within(thing, A_NUMBER)) return BAD;
        if (thing == A_JOINT && !now.has(k) || thing == A_SHEET && !isSheet(k)) return BAD;
        if (thing == A_SHEET && sheets[k].isMissing()) return NOTHING;
        Slot it = slots[slot];
        int was = it.holds;
        it.holds = thing;
        if (thing == A_JOINT) it.joint.takeFrom(now.joints[k]);
        if (thing == A_SHEET) it.sheet.takeFrom(sheets[k]);
        if (thing == A_NUMBER) it.number = k;
        return was;
    }

    public int ask(int slot, int kind) {
        if (!isSlot(slot) || !isKind(kind)) return BAD;
        Slot it = slots[slot];
        if (it.holds == 0) return NOTHING;
        if (it.holds != A_JOINT || !isOf(it.joint.kind, kind)) return KIND;
        return it.joint.worth();
    }

    public int item(int slot, int place) {
        if (!isSlot(slot)) return BAD;
        Slot it = slots[slot];
        if (it.holds == 0) return NOTHING;
        if (it.holds != A_SHEET) return KIND;
        if (!it.sheet.has(place)) return INDEX;
        return it.sheet.isNumber(place) ? it.sheet.places[place] : KIND;
    }

    public int rest(int slot, int n) {
        if (!isSlot(slot)) return BAD;
        Slot it = slots[slot];
        if (it.holds == 0) return NOTHING;
        if (it.holds != A_NUMBER) return KIND;
        if (n == 0) return NO;
        return it.number % n;
    }

    // ---- rows, images

    public int tell(int v) {
        if (waits >= WAITING) return FULL;
        waiting[waits] = v;
        waits++;
        return waits;
    }

    public int check(int n) {
        int had = waits;
        waits = 0;
        if (n < 1 || n > 30) return BAD;
        if (!imaged) return NO;
        thought.takeFrom(image);
        int hours = Math.min(n, HOURS - image.hour);
        for (int i = 0; i < hours; i++) {
            thought.passHour();
            if (!toldRight(had, 2 * i, thought.drops)) return 1 + 2 * i;
            if (!toldRight(had, 2 * i + 1, thought.tightOfAll())) return 2 + 2 * i;
        }
        return had > 2 * hours ? 1 + 2 * hours : 0;
    }

    public int keep() {
        image.takeFrom(now);
        imaged = true;
        return now.many;
    }

    public int back() {
        if (!imaged) return NO;
        now.takeFrom(image);
        return now.many;
    }

    public int count(int what) {
        switch (what) {
            case 0: return now.many;
            case 1: return now.hour;
            case 2: return now.shake;
            case 3: return now.pot;
            case 4: return now.texts;
            case 5: return waits;
            case 6: return reader.length;
            case 7: return now.z;
            default: return BAD;
        }
    }

    // ---- what several calls share

    private static boolean within(int v, int most) {
        return v >= 0 && v <= most;
    }

    private static int held(int v, int most) {
        return v < 0 ? 0 : v > most ? most : v;
    }

    private static boolean isKind(int kind) {
        return kind >= 0 && kind < KINDS;
    }

    private static boolean isSheet(int sheet) {
        return sheet >= 0 && sheet < SHEETS;
    }

    private static boolean isSlot(int slot) {
        return slot >= 0 && slot < SLOTS;
    }

    private static boolean isSpan(int n) {
        return n >= 1 && n <= 60;
    }

    /** RING, DIRT, SLANT, TAPE, HIGH. */
    private static boolean canBeSet(int what) {
        return what >= 2 && what <= 6;
    }

    /** Whether a KIND is another one, or stands under it. */
    private static boolean isOf(int kind, int other) {
        int above = kind;
        for (int i = 0; i < KINDS && isKind(above); i++) {
            if (above == other) return true;
            above = UNDER[above];
        }
        return false;
    }

    private int apartFrom(Sheet row, int joint) {
        thought.takeFrom(now);
        int apart = 0;
        for (int k = 0; k < row.size; k++) {
            if (row.isNumber(k)) apart += Math.abs(thought.leaks(thought.joints[joint]) - row.places[k]);
            thought.passHour();
        }
        return apart;
    }

    private boolean toldRight(int had, int place, int due) {
        return place < had && place < WAITING && waiting[place] == due;
    }

    /** One JOINT of THE PIPE. */
    private static final class Joint {
        int kind, tight, ring, dirt, slant, tape, high, swollen;

        Joint() {
        }

        void begin(int itsKind, int itsTight, int itsRing, int itsHigh) {
            kind = itsKind;
            tight = itsTight;
            ring = itsRing;
            high = itsHigh;
            dirt = 0;
            slant = 0;
            tape = 0;
            swollen = 0;
        }

        void takeFrom(Joint other) {
            begin(other.kind, other.tight, other.ring, other.high);
            dirt = other.dirt;
            slant = other.slant;
            tape = other.tape;
            swollen = other.swollen;
        }

        int given(int what) {
            switch (what) {
                case 2: return ring;
                case 3: return dirt;
                case 4: return slant;
                case 5: return tape;
                default: return high;
            }
        }

        void give(int what, int v) {
            switch (what) {
                case 2: ring = v; break;
                case 3: dirt = v; break;
                case 4: slant = v; break;
                case 5: tape = v; break;
                default: high = v; break;
            }
        }

        /** Without the draws that TURNING asks for. */
        void tighten(int n) {
            tight = held(tight + n, TIGHTEST);
        }

        void mendBy(int way) {
            switch (way) {
                case 0: ring = 0; break;
                case 1: dirt = 0; break;
                case 2: slant = 0; break;
                default: tape = Math.min(9, tape + 1); break;
            }
        }

        int grip(int hot) {
            return Math.max(0, tight - 2 * hot) + tape / 2;
        }

        int bears() {
            int plain = 25 - ring / 2;
            if (kind == CRACKED) return 40;
            if (isOf(kind, HARD)) return plain - 4;
            if (isOf(kind, ASLANT)) return Math.max(0, plain - slant);
            return plain;
        }

        int worth() {
            switch (kind) {
                case HARD: return tight + 3;
                case PINCHED: return 2 * (tight + 3);
                case ASLANT: return 40 - tight;
                case DIRTY: return 40 - tight - 6;
                case CRACKED: return 1;
                default: return tight;
            }
        }
    }

    /** All that AN IMAGE keeps: JOINTS, the sink, THE HOUR, z, and which TEXTS there are. */
    private static final class Pipe {
        final Laws laws;
        final Joint[] joints = new Joint[JOINTS];
        /** By KEY, the TEXT that counts, or less than 0. TEXTS told later never change those ahead of them. */
        final int[] counting = new int[KEYS];
        int many, hot, shake = 20, pot = 2000, drops, in, flood, cracks, shaken, hour, z = 1, texts;

        Pipe(Laws itsLaws) {
            laws = itsLaws;
            for (int i = 0; i < JOINTS; i++) joints[i] = new Joint();
            for (int i = 0; i < KEYS; i++) counting[i] = -1;
        }

        void takeFrom(Pipe other) {
            many = other.many;
            hot = other.hot;
            shake = other.shake;
            pot = other.pot;
            drops = other.drops;
            in = other.in;
            flood = other.flood;
            cracks = other.cracks;
            shaken = other.shaken;
            hour = other.hour;
            z = other.z;
            texts = other.texts;
            for (int i = 0; i < many; i++) joints[i].takeFrom(other.joints[i]);
            for (int i = 0; i < KEYS; i++) counting[i] = other.counting[i];
        }

        boolean has(int joint) {
            return joint >= 0 && joint < many;
        }

        /** The new one's number, or FULL. */
        int add(int kind, int tight, int ring, int high) {
            int number = many;
            if (number >= JOINTS) return FULL;
            joints[number].begin(kind, tight, ring, high);
            many = number + 1;
            return number;
        }

        int draw() {
            z = z * 1103515245 + 12345;
            return z >>> 8;
        }

        /** One quarter turn more, which the JOINT may not bear. */
        void quarterMore(Joint it) {
            it.tighten(1);
            int above = it.tight - it.bears();
            if (above > 0 && draw() % 100 < 10 * above) {
                it.kind = CRACKED;
                cracks++;
            }
        }

        int leaks(Joint it) {
            if (it.kind == CRACKED) return 60;
            int grip = it.grip(hot);
            int counts = counting[LEAK];
            int plain = counts < 0 ? Math.abs(grip - 10) : laws.gives(counts, grip, it.ring, it.tape);
            int drips = held(plain, 99);
            if (isOf(it.kind, HARD)) drips += it.ring / 5;
            if (it.kind == PINCHED) drips += 2 * Math.max(0, grip - 12);
            if (isOf(it.kind, ASLANT)) drips += it.slant;
            if (it.kind == DIRTY) drips += it.dirt;
            return Math.max(0, drips - it.swollen);
        }

        int leaksOfAll() {
            int all = 0;
            for (int i = 0; i < many; i++) all += leaks(joints[i]);
            return all;
        }

        int tightOfAll() {
            int all = 0;
            for (int i = 0; i < many; i++) all += joints[i].tight;
            return all;
        }

        int crackedOnes() {
            int ones = 0;
            for (int i = 0; i < many; i++) {
                if (joints[i].kind == CRACKED) ones |= 1 << i;
            }
            return ones;
        }

        /** Each step runs lower, so there are fewer steps than JOINTS. */
        int hangsAt(int joint) {
            int at = joint;
            for (int i = 0; i < many; i++) at = lowerBeside(at);
            return at;
        }

        /** The lesser number is looked at first, so that it stays where both are alike. */
        private int lowerBeside(int joint) {
            int lowest = joint;
            if (has(joint - 1) && joints[joint - 1].high < joints[lowest].high) lowest = joint - 1;
            if (has(joint + 1) && joints[joint + 1].high < joints[lowest].high) lowest = joint + 1;
            return lowest;
        }

        void passHours(int n) {
            for (int i = 0; i < n; i++) passHour();
        }

        void passHour() {
            for (int i = 0; i < many; i++) letDrip(joints[i]);
            // The first draw is due even where there are no JOINTS.
            if (draw() % 100 < shake && many > 0) shakeLoose(joints[draw() % many]);
            if (hour % 6 == 5) hot = 1 - hot;
            hour++;
        }

        private void letDrip(Joint it) {
            int come = leaks(it);
            // POT can have been told less than what is in it already.
            int taken = Math.min(come, Math.max(0, pot - in));
            drops += come;
            in += taken;
            flood += come - taken;
            if (come >= 1 && come <= 3) it.swollen = Math.min(9, it.swollen + 1);
        }

        private void shakeLoose(Joint it) {
            it.tighten(-1);
            it.swollen = 0;
            shaken++;
        }
    }

    /** Of numbers looked at one behind the other, the least, and which it was: of several the first. */
    private static final class Least {
        private int which, number;

        Least() {
        }

        void begin() {
            which = NONE;
            number = NONE;
        }

        void look(int next, int itsNumber) {
            if (which != NONE && itsNumber >= number) return;
            which = next;
            number = itsNumber;
        }

        /** What 0 which, 1 the number; NONE where there was none to look at. */
        int found(int what) {
            return what == 0 ? which : number;
        }
    }

    /**
     * A TEXT's steps, each put behind what it works on: a NUMBER stands for itself, a NAME is -1 less
     * its place among its KEY's names, a sign is 0 less its byte.
     */
    private static final class Text {
        final int[] steps = new int[BYTES];
        int key, size, pieces;

        Text() {
        }

        void takeFrom(Text other) {
            key = other.key;
            size = other.size;
            pieces = other.pieces;
            for (int i = 0; i < size && i < BYTES; i++) steps[i] = other.steps[i];
        }

        void put(int step) {
            if (size >= BYTES) return;
            steps[size] = step;
            size++;
        }
    }

    /** All TEXTS, and the row in which they are worked out. */
    private static final class Laws {
        final Text[] texts = new Text[TEXTS];
        final int[] stack = new int[BYTES];

        Laws() {
            for (int i = 0; i < TEXTS; i++) texts[i] = new Text();
        }

        /** What a TEXT gives where its KEY's names are a, b, c. */
        int gives(int number, int a, int b, int c) {
            if (!within(number, TEXTS - 1)) return 0;
            Text it = texts[number];
            int top = 0;
            for (int i = 0; i < it.size && i < BYTES && top < BYTES; i++) {
                int step = it.steps[i];
                if (step >= -KEYS) {
                    stack[top] = step >= 0 ? step : step == -1 ? a : step == -2 ? b : c;
                    top++;
                } else if (step == -'!') {
                    if (top >= 1) stack[top - 1] = stack[top - 1] == 0 ? 1 : 0;
                } else if (top >= 2) {
                    stack[top - 2] = joined(stack[top - 2], -step, stack[top - 1]);
                    top--;
                }
            }
            return stack[0];
        }

        private static int joined(int left, int sign, int right) {
            switch (sign) {
                case '|': return left != 0 || right != 0 ? 1 : 0;
                case '&': return left != 0 && right != 0 ? 1 : 0;
                case '<': return left < right ? 1 : 0;
                case '=': return left == right ? 1 : 0;
                case '>': return left > right ? 1 : 0;
                case '+': return left + right;
                case '-': return left - right;
                case '*': return left * right;
                default: return right == 0 ? 0 : left / right;
            }
        }
    }

    /** THE TAPE, and the word or sign of it that is looked at. */
    private static final class Reader {
        private static final int END = 0, LETTERS = 1, DIGITS = 2, SIGN = 3, UNFIT = 4;
        /** TEST, which joins two at most, and TERM, the tightest level that joins. */
        private static final int TEST = 2, TERM = 4, OPEN = 8;

        final int[] bytes = new int[BYTES];
        final Text draft = new Text();
        int length;
        private int sort, place, behind, value;

        Reader() {
        }

        void append(int four) {
            for (int shift = 24; shift >= 0 && length < BYTES; shift -= 8) {
                bytes[length] = four >>> shift & 255;
                length++;
            }
        }

        /** The place of the FAULT, or NONE: then the draft is the TEXT. */
        int faultOfTape() {
            draft.size = 0;
            draft.pieces = 0;
            sort = END;
            behind = 0;
            advance();
            // What can't be gone on with is never passed over, so it is still looked at.
            return readKey() && readLevel(0, 0, 0) && sort == END ? NONE : place;
        }

        private void advance() {
            boolean afterWord = sort == LETTERS || sort == DIGITS;
            int from = behind;
            place = from;
            while (place < length && place < BYTES && bytes[place] == ' ') place++;
            sort = sortAt(place);
            value = 0;
            behind = place;
            if (sort == SIGN) {
                value = bytes[place];
                behind = place + 1;
            } else if (sort != END) {
                readWord();
                boolean tooLong = sort == DIGITS && behind - place > 4;
                if (tooLong || afterWord && place == from) sort = UNFIT;
            }
        }

        /** Of digits the number, of a letter its byte; of longer words the value is never asked. */
        private void readWord() {
            for (; behind < length && behind < BYTES && sortAt(behind) == sort; behind++) {
                value = sort == DIGITS ? value * 10 + (bytes[behind] - '0') : bytes[behind];
            }
        }

        private int sortAt(int at) {
            if (at < 0 || at >= length || at >= BYTES) return END;
            int b = bytes[at];
            return b >= 'a' && b <= 'z' ? LETTERS : b >= '0' && b <= '9' ? DIGITS : SIGN;
        }

        private boolean readKey() {
            if (isWord("leak")) draft.key = LEAK;
            else if (isWord("fee")) draft.key = FEE;
            else if (isWord("fine")) draft.key = FINE;
            else return false;
            advance();
            return true;
        }

        private boolean isWord(String word) {
            if (sort != LETTERS || behind - place != word.length()) return false;
            for (int i = 0; i < word.length() && place + i < BYTES; i++) {
                if (bytes[place + i] != word.charAt(i)) return false;
            }
            return true;
        }

        /** OR, AND, TEST, SUM, TERM (levels 0 .. 4), within so many that are open; beyond, a PIECE. */
        private boolean readLevel(int level, int brackets, int nots) {
            if (level > TERM) return readPiece(brackets, nots);
            if (!readLevel(level + 1, brackets, nots)) return false;
            int most = level == TEST ? 1 : BYTES;
            for (int i = 0; i < most && joinsAt(level); i++) {
                int sign = value;
                advance();
                if (!readLevel(level + 1, brackets, nots)) return false;
                draft.put(-sign);
            }
            return true;
        }

        private boolean joinsAt(int level) {
            if (sort != SIGN) return false;
            switch (level) {
                case 0: return value == '|';
                case 1: return value == '&';
                case TEST: return value == '<' || value == '=' || value == '>';
                case 3: return value == '+' || value == '-';
                default: return value == '*' || value == '/';
            }
        }

        private boolean readPiece(int brackets, int nots) {
            if (sort == SIGN && value == '(' && brackets < OPEN) {
                advance();
                if (!readLevel(0, brackets + 1, nots) || sort != SIGN || value != ')') return false;
                advance();
                return true;
            }
            if (sort == SIGN && value == '!' && nots < OPEN) {
                advance();
                if (!readPiece(brackets, nots + 1)) return false;
                draft.put(-'!');
                return true;
            }
            int step = sort == DIGITS ? value : nameStep();
            if (step == NONE) return false;
            draft.put(step);
            draft.pieces++;
            advance();
            return true;
        }

        private int nameStep() {
            if (sort != LETTERS || behind - place != 1) return NONE;
            String names = draft.key == LEAK ? "gra" : draft.key == FEE ? "df" : "ts";
            int name = names.indexOf((char) value);
            return name < 0 ? NONE : -1 - name;
        }
    }

    /** A SHEET: places that are NO NUMBER hold NONE, which no number of either sort is. */
    private static final class Sheet {
        final int[] places = new int[PLACES];
        int sort = MISSING, size;

        Sheet() {
        }

        void become(int itsSort, int n) {
            sort = itsSort;
            size = n;
            for (int i = 0; i < PLACES; i++) places[i] = 0;
        }

        void takeFrom(Sheet other) {
            sort = other.sort;
            size = other.size;
            for (int i = 0; i < PLACES; i++) places[i] = other.places[i];
        }

        boolean isMissing() {
            return sort == MISSING;
        }

        boolean has(int place) {
            return place >= 0 && place < size;
        }

        boolean hasRow(int place, int many) {
            return place >= 0 && many >= 0 && many <= size - place;
        }

        boolean isNumber(int place) {
            return has(place) && places[place] != NONE;
        }
    }

    /** A SLOT: its things are its own, as they were when they were laid. */
    private static final class Slot {
        final Joint joint = new Joint();
        final Sheet sheet = new Sheet();
        int holds, number;

        Slot() {
        }
    }
}
