/**
 * "Terms", sentence by sentence, where one names a boundary: least and most, what is cut, held, just reached, just
 * passed. The words ahead of each answer are the document's.
 */
public final class TermsTest {
    private static final int KIND = -1000000012;
    private static final int MAX = Integer.MAX_VALUE, MIN = Integer.MIN_VALUE;
    private static final int JOINT = 0, HARD = 1, ASLANT = 2, PINCHED = 3, DIRTY = 4, CRACKED = 5;
    private static final int DIRT = 3, SLANT = 4, TAPE = 5, HIGH = 6;
    private static final int TIGHT_TOLD = 1, SWOLLEN_TOLD = 7, GRIP_TOLD = 8, LEAKS_TOLD = 9, BEARS_TOLD = 10;
    private static final int HANGS_TOLD = 11, WORTH_TOLD = 12;
    private static final Due d = new Due("TermsTest");

    public static void main(String[] args) {
        kinds();
        grip();
        dripsWithoutText();
        dripsHeld();
        dripsHard();
        dripsPinched();
        dripsAslantDirty();
        leaks();
        bears();
        worth();
        hangs();
        turningHeld();
        turningDraws();
        turningCracks();
        turningGoesOn();
        dropsInThePot();
        swollen();
        shaken();
        shakenWhich();
        hot();
        draws();
        dealtByDraws();
        thoughtsBeyondTheHour();
        thoughtsByZ();
        theHoursTold();
        d.end();
    }

    private static QuarterTurn calm() {
        QuarterTurn x = new QuarterTurn();
        x.rule(1, 0);
        return x;
    }

    private static QuarterTurn one(int kind, int tight, int ring) {
        QuarterTurn x = calm();
        x.joint(kind, tight, ring, 5);
        return x;
    }

    private static int leak(int kind, int tight, int ring, int slant, int dirt) {
        QuarterTurn x = one(kind, tight, ring);
        x.set(0, SLANT, slant);
        x.set(0, DIRT, dirt);
        return x.told(0, LEAKS_TOLD);
    }

    /** The least z of 0 or more by which the rest by 100 of the next draw is this. */
    private static int zFor(int rest) {
        for (int z = 0; z < 1000000; z++) {
            if (drawn(z) % 100 == rest) return z;
        }
        return -1;
    }

    private static int after(int z) {
        return (int) (z * 1103515245L + 12345L);
    }

    private static int drawn(int z) {
        return (int) ((after(z) & 0xffffffffL) / 256);
    }

    // ---- 1 THE PIPE

    static void kinds() {
        int[] above = {-1, JOINT, JOINT, HARD, ASLANT, JOINT};
        for (int kind = 0; kind < 6; kind++) {
            QuarterTurn x = one(kind, 17, 0);
            boolean[] is = new boolean[6];
            for (int k = kind; k >= 0; k = above[k]) is[k] = true;
            for (int k = 0; k < 6; k++) d.due("a KIND as one above it", x.as(0, k), is[k] ? 17 : KIND);
        }
    }

    static void grip() {
        // TIGHT, HOT, TAPE, GRIP: 2 less with HOT 1 (0 at least), then half (cut) of TAPE
        int[][] all = {{0, 0, 0, 0}, {0, 1, 0, 0}, {1, 1, 0, 0}, {2, 1, 0, 0}, {3, 1, 0, 1}, {3, 0, 0, 3}, {40, 0, 0, 40},
            {40, 1, 0, 38}, {10, 0, 1, 10}, {10, 0, 2, 11}, {10, 0, 3, 11}, {10, 0, 8, 14}, {10, 0, 9, 14}, {40, 0, 9, 44},
            {40, 1, 9, 42}, {0, 1, 9, 4}, {1, 1, 9, 4}, {1, 1, 1, 0}, {2, 1, 2, 1}};
        for (int[] a : all) {
            QuarterTurn x = one(JOINT, a[0], 0);
            x.rule(0, a[1]);
            x.set(0, TAPE, a[2]);
            d.due("GRIP of TIGHT " + a[0] + ", HOT " + a[1] + ", TAPE " + a[2], x.told(0, GRIP_TOLD), a[3]);
            d.due("TIGHT is as it was", x.told(0, TIGHT_TOLD), a[0]);
        }
    }

    static void dripsWithoutText() {
        int[] tight = {0, 1, 9, 10, 11, 12, 40};
        int[] due = {10, 9, 1, 0, 1, 2, 30};
        for (int i = 0; i < tight.length; i++) {
            d.due("how far GRIP is from 10", leak(JOINT, tight[i], 40, 9, 9), due[i]);
        }
        QuarterTurn x = one(JOINT, 40, 0);
        x.set(0, TAPE, 9);
        d.due("the most", x.told(0, LEAKS_TOLD), 34);
    }

    /** What leak gives, held within 0 .. 99, and only then what the KIND puts to it. */
    static void dripsHeld() {
        // 2048 * 1024 * 1024 wraps to the least int, one less than it to the greatest
        String[] texts = {"0-9999*9999", "0-1", "0", "1", "98", "99", "100", "101", "9999*9999", "2048*1024*1024",
            "2048*1024*1024-1", "8192*8"};
        int[] due = {0, 0, 0, 1, 98, 99, 99, 99, 99, 0, 99, 99};
        for (int i = 0; i < texts.length; i++) {
            for (int kind = 0; kind < 6; kind++) {
                QuarterTurn x = one(kind, 10, 14);
                x.set(0, SLANT, 6);
                x.set(0, DIRT, 7);
                x.set(0, TAPE, kind);
                d.due("leak " + texts[i], Tapes.tell(x, "leak " + texts[i]), 0);
                // PINCHED: TAPE 3 makes GRIP 11, which is not above 12
                int[] more = {0, 2, 6, 2, 13};
                int want = kind == CRACKED ? 60 : due[i] + more[kind];
                d.due("leak " + texts[i] + ", KIND " + kind, x.told(0, LEAKS_TOLD), want);
            }
        }
        // held first: what SWOLLEN takes is taken from 99, not from more
        QuarterTurn y = one(JOINT, 10, 0);
        Tapes.tell(y, "leak 3");
        y.hours(2);
        Tapes.tell(y, "leak 500");
        d.due("held within 99, then less SWOLLEN", y.told(0, LEAKS_TOLD), 97);
    }

    static void dripsHard() {
        int[] ring = {0, 4, 5, 9, 10, 14, 15, 39, 40};
        int[] due = {0, 0, 1, 1, 2, 2, 3, 7, 8};
        for (int i = 0; i < ring.length; i++) {
            d.due("a fifth (cut) of RING, HARD", leak(HARD, 10, ring[i], 9, 9), due[i]);
            d.due("a fifth (cut) of RING, PINCHED", leak(PINCHED, 10, ring[i], 9, 9), due[i]);
            d.due("no fifth, JOINT", leak(JOINT, 10, ring[i], 9, 9), 0);
            d.due("no fifth, ASLANT", leak(ASLANT, 10, ring[i], 0, 9), 0);
            d.due("no fifth, DIRTY", leak(DIRTY, 10, ring[i], 0, 0), 0);
        }
    }

    static void dripsPinched() {
        int[] tight = {0, 9, 11, 12, 13, 14, 40};
        int[] due = {0, 0, 0, 0, 2, 4, 56};
        for (int i = 0; i < tight.length; i++) {
            int far = Math.abs(tight[i] - 10);
            d.due("twice what GRIP is above 12", leak(PINCHED, tight[i], 0, 9, 9), far + due[i]);
            d.due("HARD has no more", leak(HARD, tight[i], 0, 9, 9), far);
        }
        QuarterTurn x = one(PINCHED, 13, 0);
        x.rule(0, 1);
        d.due("GRIP, not TIGHT, hot", x.told(0, LEAKS_TOLD), 1);
        x.rule(0, 0);
        x.set(0, TAPE, 2);
        d.due("GRIP, not TIGHT, taped", x.told(0, LEAKS_TOLD), 4 + 4);
    }

    static void dripsAslantDirty() {
        for (int v = 0; v <= 9; v++) {
            d.due("ASLANT: and SLANT", leak(ASLANT, 10, 40, v, 9), v);
            d.due("DIRTY: as ASLANT, and DIRT", leak(DIRTY, 10, 40, v, 9 - v), 9);
            d.due("DIRTY: and DIRT", leak(DIRTY, 10, 40, 0, v), v);
            d.due("JOINT: neither", leak(JOINT, 10, 40, v, v), 0);
            d.due("HARD: neither", leak(HARD, 10, 0, v, v), 0);
            d.due("PINCHED: neither", leak(PINCHED, 10, 0, v, v), 0);
        }
        d.due("DIRTY: both", leak(DIRTY, 10, 40, 9, 9), 18);
    }

    /** Less SWOLLEN (0 at least), of what the KIND DRIPS in all; CRACKED: 60, whatever else it is. */
    static void leaks() {
        int[] due = {0, 0, 0, 1, 2, 7};
        for (int i = 0; i < due.length; i++) {
            for (int kind = 0; kind < 5; kind++) {
                QuarterTurn x = one(kind, 10, 0);
                Tapes.tell(x, "leak 3");
                x.hours(2);
                d.due("SWOLLEN", x.told(0, SWOLLEN_TOLD), 2);
                Tapes.tell(x, "leak " + (i == 5 ? 9 : i));
                d.due("what it DRIPS, " + i + ", less SWOLLEN 2", x.told(0, LEAKS_TOLD), due[i]);
            }
        }
        // SWOLLEN is taken from what HARD, PINCHED, ASLANT, DIRTY put to it too
        int[] kinds = {HARD, PINCHED, ASLANT, DIRTY};
        int[] more = {4, 4, 5, 8};
        for (int i = 0; i < kinds.length; i++) {
            QuarterTurn x = one(JOINT, 10, 20);
            Tapes.tell(x, "leak 3");
            x.hours(3);
            x.set(0, SLANT, 5);
            x.set(0, DIRT, 3);
            x.turns(0, kinds[i]);
            Tapes.tell(x, "leak 0");
            d.due("SWOLLEN 3, KIND " + kinds[i], x.told(0, LEAKS_TOLD), more[i] - 3);
        }
        QuarterTurn c = one(JOINT, 10, 40);
        Tapes.tell(c, "leak 3");
        c.hours(3);
        c.turns(0, CRACKED);
        c.set(0, SLANT, 9);
        c.rule(0, 1);
        d.due("CRACKED: 60, though SWOLLEN", c.told(0, LEAKS_TOLD), 60);
    }

    static void bears() {
        // RING, SLANT, and what JOINT, HARD, ASLANT BEARS
        int[][] all = {{0, 0, 25, 21, 25}, {1, 0, 25, 21, 25}, {2, 0, 24, 20, 24}, {39, 0, 6, 2, 6}, {40, 0, 5, 1, 5},
            {40, 4, 5, 1, 1}, {40, 5, 5, 1, 0}, {40, 6, 5, 1, 0}, {40, 9, 5, 1, 0}, {0, 9, 25, 21, 16}, {33, 9, 9, 5, 0},
            {31, 9, 10, 6, 1}};
        for (int[] a : all) {
            int[] due = {a[2], a[3], a[4], a[3], a[4], 40};
            for (int kind = 0; kind < 6; kind++) {
                QuarterTurn x = one(kind, 40, a[0]);
                x.set(0, SLANT, a[1]);
                x.set(0, DIRT, 9);
                x.set(0, TAPE, 9);
                x.rule(0, 1);
                d.due("KIND " + kind + " BEARS, RING " + a[0] + ", SLANT " + a[1], x.told(0, BEARS_TOLD), due[kind]);
            }
        }
    }

    static void worth() {
        int[][] all = {{0, 0, 3, 40, 6, 34, 1}, {1, 1, 4, 39, 8, 33, 1}, {34, 34, 37, 6, 74, 0, 1}, {40, 40, 43, 0, 86, -6, 1}};
        for (int[] a : all) {
            for (int kind = 0; kind < 6; kind++) {
                QuarterTurn x = one(kind, a[0], 40);
                x.set(0, DIRT, 9);
                x.set(0, SLANT, 9);
                x.rule(0, 1);
                d.due("KIND " + kind + ", TIGHT " + a[0] + ": WORTH", x.told(0, WORTH_TOLD), a[1 + kind]);
                x.lay(0, 1, 0);
                d.due("KIND " + kind + ", TIGHT " + a[0] + ": WORTH in a SLOT", x.ask(0, 0), a[1 + kind]);
            }
        }
    }

    /** All rows of four JOINTS with HIGH 0 .. 3 each: of two the lower one, alike the lesser number, and on from there. */
    static void hangs() {
        QuarterTurn x = calm();
        for (int i = 0; i < 4; i++) x.joint(JOINT, 10, 0, 0);
        int[] high = new int[4];
        for (int all = 0; all < 256 && x.count(0) == 4; all++) {
            if (all % 32 == 0) {
                x = calm();
                for (int i = 0; i < 4; i++) x.joint(JOINT, 10, 0, 0);
            }
            for (int i = 0; i < 4; i++) {
                high[i] = all >> 2 * i & 3;
                x.set(i, HIGH, high[i]);
            }
            for (int i = 0; i < 4; i++) d.due("HIGH " + all + ": " + i + " HANGS", x.told(i, HANGS_TOLD), hang(high, i));
        }
        QuarterTurn alone = one(JOINT, 10, 0);
        d.due("one alone", alone.told(0, HANGS_TOLD), 0);
        alone.joint(JOINT, 10, 0, 5);
        d.due("one beside it is not lower", alone.told(0, HANGS_TOLD), 0);
        d.due("one beside it is not lower", alone.told(1, HANGS_TOLD), 1);
        QuarterTurn zigzag = calm();
        for (int h : new int[] {9, 8, 7, 6, 5, 4, 3, 9}) zigzag.joint(JOINT, 10, 0, h);
        for (int i = 0; i < 8; i++) d.due("as long as there is one", zigzag.told(i, HANGS_TOLD), 6);
    }

    private static int hang(int[] high, int at) {
        int left = at > 0 && high[at - 1] < high[at] ? high[at - 1] : 10;
        int right = at < high.length - 1 && high[at + 1] < high[at] ? high[at + 1] : 10;
        if (left == 10 && right == 10) return at;
        return hang(high, left <= right ? at - 1 : at + 1);
    }

    // ---- 2 TURNING, AN HOUR

    static void turningHeld() {
        int[][] all = {{0, -1, 0}, {0, -9, 0}, {1, -1, 0}, {1, -9, 0}, {8, -9, 0}, {9, -9, 0}, {10, -9, 1}, {40, -9, 31},
            {40, -1, 39}, {0, 1, 1}, {0, 9, 9}, {16, 9, 25}};
        for (int[] a : all) {
            QuarterTurn x = one(JOINT, a[0], 0);
            d.due("TIGHT " + a[0] + " by " + a[1], x.turn(0, a[1]), a[2]);
            d.due("and is so then", x.told(0, TIGHT_TOLD), a[2]);
            d.due("no draw", x.count(7), 1);
        }
        int[][] cracked = {{40, 1, 40}, {40, 9, 40}, {39, 1, 40}, {39, 2, 40}, {32, 9, 40}, {31, 9, 40}, {30, 9, 39}};
        for (int[] a : cracked) {
            QuarterTurn x = one(CRACKED, a[0], 40);
            d.due("CRACKED, TIGHT " + a[0] + " by " + a[1], x.turn(0, a[1]), a[2]);
            d.due("it BEARS 40: no draw", x.count(7), 1);
            d.due("no CRACKS", x.sink(3), 0);
        }
        QuarterTurn y = one(PINCHED, 40, 40);
        d.due("n below 0, far above what it BEARS", y.turn(0, -9), 31);
        d.due("no draw", y.count(7), 1);
        d.due("no CRACKS", y.sink(3), 0);
    }

    /** A draw behind each with n above 0, if TIGHT is above what it BEARS: none at it, one for each beyond. */
    static void turningDraws() {
        for (int n = 1; n <= 9; n++) {
            // BEARS 25; a z by which the first three draws crack nothing with 1, 2, 3 above
            QuarterTurn x = one(JOINT, 25 - n, 0);
            x.seed(77);
            d.due("up to what it BEARS", x.turn(0, n), 25);
            d.due("no draw", x.count(7), 77);
        }
        int z = 0;
        while (drawn(z) % 100 < 10 || drawn(after(z)) % 100 < 20 || drawn(after(after(z))) % 100 < 30) z++;
        int[] due = {z, after(z), after(after(z)), after(after(after(z)))};
        for (int n = 0; n <= 3; n++) {
            QuarterTurn x = one(JOINT, 20, 0);
            x.seed(z);
            d.due("beyond what it BEARS by " + n, x.turn(0, 5 + n), 25 + n);
            d.due("draws", x.count(7), due[n]);
            d.due("no CRACKS", x.sink(3), 0);
            d.due("its KIND", x.told(0, 0), JOINT);
        }
        QuarterTurn x = one(JOINT, 40, 40);
        x.turn(0, 1);
        d.due("also one with which TIGHT stays 40: a draw", x.count(7), after(1));
        d.due("also one with which TIGHT stays 40: CRACKED", x.told(0, 0), CRACKED);
        d.due("also one with which TIGHT stays 40: CRACKS", x.sink(3), 1);
        // each KIND by what it BEARS itself
        int[] bears = {20, 16, 13, 16, 13};
        for (int kind = 0; kind < 5; kind++) {
            for (int above = 0; above <= 1; above++) {
                QuarterTurn y = one(kind, bears[kind] - 1 + above, 10);
                y.set(0, SLANT, 7);
                y.turn(0, 1);
                d.due("KIND " + kind + ", above by " + above + ": draws", y.count(7), above == 0 ? 1 : after(1));
            }
        }
    }

    /** If its rest by 100 is below 10 times what it is above. */
    static void turningCracks() {
        for (int above = 1; above <= 10; above++) {
            for (int rest : new int[] {0, 10 * above - 1, 10 * above, 99}) {
                if (rest > 99) continue;
                QuarterTurn x = one(JOINT, 24 + above, 0);
                x.seed(zFor(rest));
                x.turn(0, 1);
                boolean cracks = rest < 10 * above;
                d.due("above by " + above + ", rest " + rest + ": KIND", x.told(0, 0), cracks ? CRACKED : JOINT);
                d.due("above by " + above + ", rest " + rest + ": CRACKS", x.sink(3), cracks ? 1 : 0);
                d.due("above by " + above + ", rest " + rest + ": TIGHT", x.told(0, TIGHT_TOLD), 25 + above);
            }
        }
        // the most that TIGHT is above what each KIND BEARS
        int[] bears = {5, 1, 0, 1, 0};
        for (int kind = 0; kind < 5; kind++) {
            QuarterTurn y = one(kind, 39, 40);
            y.set(0, SLANT, 9);
            y.seed(zFor(99));
            d.due("KIND " + kind + " BEARS", y.told(0, BEARS_TOLD), bears[kind]);
            d.due("KIND " + kind + ", rest 99: TIGHT", y.turn(0, 1), 40);
            d.due("KIND " + kind + ", rest 99: CRACKED", y.told(0, 0), CRACKED);
            d.due("KIND " + kind + ", rest 99: CRACKS", y.sink(3), 1);
        }
    }

    /** The JOINT is CRACKED from now on (CRACKS 1 more; the turning goes on). */
    static void turningGoesOn() {
        for (int n = 1; n <= 9; n++) {
            QuarterTurn x = one(JOINT, 25, 0);
            int z = zFor(9);
            x.seed(z);
            d.due("TIGHT then", x.turn(0, n), 25 + n);
            d.due("CRACKS", x.sink(3), 1);
            d.due("no more draws", x.count(7), after(z));
        }
        QuarterTurn x = one(JOINT, 25, 0);
        x.joint(JOINT, 25, 0, 0);
        for (int j = 1; j >= 0; j--) {
            x.seed(zFor(0));
            x.turn(j, 1);
            d.due("CRACKS", x.sink(3), 2 - j);
        }
        x.turns(0, JOINT);
        x.seed(zFor(0));
        x.turn(0, 1);
        d.due("CRACKS, again", x.sink(3), 3);
        d.due("from now on", x.hours(1), 120);
    }

    /** IN is more by them, as far as POT takes them, FLOOD by the others. */
    static void dropsInThePot() {
        int[][] all = {{61, 60, 0}, {60, 60, 0}, {59, 59, 1}, {1, 1, 59}, {0, 0, 60}, {9999, 60, 0}};
        for (int[] a : all) {
            QuarterTurn x = one(CRACKED, 0, 0);
            x.rule(2, a[0]);
            d.due("DROPS in AN HOUR", x.hours(1), 60);
            d.due("POT " + a[0] + ": IN", x.sink(1), a[1]);
            d.due("POT " + a[0] + ": FLOOD", x.sink(2), a[2]);
            d.due("POT " + a[0] + ": DROPS", x.sink(0), 60);
            d.due("POT " + a[0] + ": the next hour", x.hours(1), 60);
            d.due("POT " + a[0] + ": IN then", x.sink(1), Math.min(120, a[0]));
            d.due("POT " + a[0] + ": FLOOD then", x.sink(2), 120 - Math.min(120, a[0]));
        }
        QuarterTurn x = one(CRACKED, 0, 0);
        x.hours(2);
        for (int pot : new int[] {119, 60, 0}) {
            x.rule(2, pot);
            d.due("a POT of less than IN", x.sink(1), 120);
            int flood = x.sink(2);
            x.hours(1);
            d.due("takes none", x.sink(1), 120);
            d.due("FLOOD by all", x.sink(2), flood + 60);
        }
        x.rule(2, 120);
        x.hours(1);
        d.due("a POT of just IN takes none", x.sink(1), 120);
        x.rule(2, 121);
        x.hours(1);
        d.due("a POT of one more takes one", x.sink(1), 121);
        d.due("emptied", x.empty(), 121);
        x.hours(1);
        d.due("takes all again", x.sink(1), 60);
    }

    /** With 1 to 3 drops SWOLLEN is 1 more then (9 at most). */
    static void swollen() {
        int[] due = {0, 1, 1, 1, 0, 0};
        for (int drops = 0; drops < due.length; drops++) {
            QuarterTurn x = one(JOINT, 10, 0);
            Tapes.tell(x, "leak " + drops);
            d.due("drops", x.hours(1), drops);
            d.due(drops + " drops: SWOLLEN", x.told(0, SWOLLEN_TOLD), due[drops]);
        }
        for (int drops = 1; drops <= 4; drops++) {
            QuarterTurn x = one(JOINT, 10, 0);
            for (int s = 0; s <= 12; s++) {
                int was = Math.min(9, drops == 4 ? 0 : s);
                d.due("SWOLLEN", x.told(0, SWOLLEN_TOLD), was);
                Tapes.tell(x, "leak " + (was + drops));
                d.due("drops, SWOLLEN " + was, x.hours(1), drops);
            }
        }
        QuarterTurn y = one(CRACKED, 10, 0);
        y.hours(5);
        d.due("60 drops: SWOLLEN", y.told(0, SWOLLEN_TOLD), 0);
        // each JOINT by its own drops, not by those of all
        QuarterTurn z = calm();
        for (int tight : new int[] {10, 11, 14, 13, 8}) z.joint(JOINT, tight, 0, 0);
        d.due("drops of all", z.hours(1), 0 + 1 + 4 + 3 + 2);
        int[] each = {0, 1, 0, 1, 1};
        for (int j = 0; j < 5; j++) d.due("SWOLLEN of " + j, z.told(j, SWOLLEN_TOLD), each[j]);
    }

    /** If its rest by 100 is below SHAKE (and there are JOINTS), one more draw. */
    static void shaken() {
        for (int shake : new int[] {0, 1, 20, 50, 99, 100}) {
            for (int rest : new int[] {0, shake - 1, shake, 99}) {
                if (rest < 0 || rest > 99) continue;
                boolean shaken = rest < shake;
                QuarterTurn x = new QuarterTurn();
                x.rule(1, shake);
                x.joint(JOINT, 12, 0, 0);
                int z = zFor(rest);
                x.seed(z);
                x.hours(1);
                String name = "SHAKE " + shake + ", rest " + rest;
                d.due(name + ": SHAKEN", x.sink(4), shaken ? 1 : 0);
                d.due(name + ": TIGHT", x.told(0, TIGHT_TOLD), shaken ? 11 : 12);
                d.due(name + ": SWOLLEN", x.told(0, SWOLLEN_TOLD), shaken ? 0 : 1);
                d.due(name + ": z", x.count(7), shaken ? after(after(z)) : after(z));
                QuarterTurn none = new QuarterTurn();
                none.rule(1, shake);
                none.seed(z);
                none.hours(1);
                d.due(name + ", no JOINTS: z", none.count(7), after(z));
                d.due(name + ", no JOINTS: SHAKEN", none.sink(4), 0);
            }
        }
        for (int tight = 0; tight <= 2; tight++) {
            QuarterTurn x = new QuarterTurn();
            x.rule(1, 100);
            x.joint(JOINT, tight, 0, 0);
            x.hours(2);
            d.due("TIGHT 1 less (0 at least)", x.told(0, TIGHT_TOLD), 0);
            d.due("SHAKEN all the same", x.sink(4), 2);
            Tapes.tell(x, "leak 2");
            x.rule(1, 0);
            x.hours(1);
            d.due("TIGHT 0 swells", x.told(0, SWOLLEN_TOLD), 1);
            x.rule(1, 100);
            x.hours(1);
            d.due("SWOLLEN 0, though TIGHT stays 0", x.told(0, SWOLLEN_TOLD), 0);
            d.due("SHAKEN all the same", x.sink(4), 3);
        }
        QuarterTurn c = new QuarterTurn();
        c.rule(1, 100);
        c.joint(CRACKED, 7, 0, 0);
        c.hours(3);
        d.due("a CRACKED one too", c.told(0, TIGHT_TOLD), 4);
        d.due("it stays CRACKED", c.told(0, 0), CRACKED);
    }

    /** The JOINT that is its rest by how many there are. */
    static void shakenWhich() {
        for (int many = 1; many <= 8; many++) {
            boolean[] was = new boolean[many];
            for (int seed = -20; seed < 20; seed++) {
                QuarterTurn x = new QuarterTurn();
                x.rule(1, 100);
                for (int j = 0; j < many; j++) x.joint(JOINT, 30, 0, 0);
                x.seed(seed);
                x.hours(1);
                int which = drawn(after(seed)) % many;
                was[which] = true;
                for (int j = 0; j < many; j++) d.due("TIGHT", x.told(j, TIGHT_TOLD), j == which ? 29 : 30);
            }
            for (int j = 0; j < many; j++) d.due("each of " + many + " was shaken", was[j] ? 1 : 0, 1);
        }
    }

    /** Is the rest of THE HOUR by 6 just 5, HOT becomes 1 less HOT. */
    static void hot() {
        for (int first = 0; first < 2; first++) {
            QuarterTurn x = calm();
            x.rule(0, first);
            int hot = first;
            for (int hour = 0; hour < 40; hour++) {
                d.due("THE HOUR", x.count(1), hour);
                x.hours(1);
                if (hour % 6 == 5) hot = 1 - hot;
                d.due("HOT behind THE HOUR " + hour, x.sink(5), hot);
            }
        }
        // it leaks by the HOT that was, in the hour that turns it
        QuarterTurn y = one(JOINT, 15, 0);
        int[] due = {5, 5, 5, 5, 5, 5, 3, 2, 1, 0, 0, 0, 2, 1, 0};
        for (int hour = 0; hour < due.length; hour++) d.due("drops of hour " + hour, y.hours(1), due[hour]);
    }

    /** z becomes z * 1103515245 + 12345 (an int); it gives z >>> 8. */
    static void draws() {
        for (int z : new int[] {0, 1, -1, 2, 65535, -65536, 1103515245, 12345, -12345, MAX, MIN, MAX - 1, MIN + 1}) {
            QuarterTurn x = new QuarterTurn();
            x.seed(z);
            x.hours(1);
            d.due("z behind a draw from " + z, x.count(7), after(z));
            x.hours(2);
            d.due("z behind three draws", x.count(7), after(after(after(z))));
        }
    }

    /** KIND the rest of a draw by 6, TIGHT that of one more by 20, RING that of one more by 30, HIGH that of one more by 10. */
    static void dealtByDraws() {
        boolean[] kind = new boolean[6], tight = new boolean[20], ring = new boolean[30], high = new boolean[10];
        for (int seed = -40; seed < 60; seed++) {
            QuarterTurn x = new QuarterTurn();
            int z = seed * 7654321;
            x.seed(z);
            d.due("deal", x.deal(8), 8);
            for (int j = 0; j < 8; j++) {
                int[] due = {drawn(z) % 6, drawn(z = after(z)) % 20, drawn(z = after(z)) % 30, 0, 0, 0,
                    drawn(z = after(z)) % 10, 0};
                z = after(z);
                for (int what = 0; what < 8; what++) d.due("dealt " + what, x.told(j, what), due[what]);
                kind[due[0]] = true;
                tight[due[1]] = true;
                ring[due[2]] = true;
                high[due[6]] = true;
            }
            d.due("z", x.count(7), z);
        }
        for (boolean[] all : new boolean[][] {kind, tight, ring, high}) {
            for (boolean was : all) d.due("each came", was ? 1 : 0, 1);
        }
    }

    // ---- 3 only thought

    /** z as it is, without the bound of THE HOUR: an object at THE HOUR 9999 thinks as one at 3 (9999 by 6 is 3). */
    static void thoughtsBeyondTheHour() {
        for (int seed = 0; seed < 4; seed++) {
            QuarterTurn x = lateOne(seed, true), y = lateOne(seed, false);
            d.due("THE HOUR", x.count(1), 9999);
            d.due("THE HOUR", y.count(1), 3);
            for (int n : new int[] {0, 1, 2, 3, 4, 9, 30, 100}) {
                for (int what = 0; what < 8; what++) d.due("behind " + n, x.behind(n, what), y.behind(n, what));
            }
            d.due("full", x.full(), y.full());
            for (int j = 0; j < 5; j++) {
                d.due("shut", x.shut(j), y.shut(j));
                for (int n : new int[] {1, 7, 60}) {
                    for (int what = 0; what < 2; what++) {
                        d.due("mend", x.mend(j, n, what), y.mend(j, n, what));
                        d.due("becomes", x.becomes(j, n, what), y.becomes(j, n, what));
                    }
                }
            }
            for (int n : new int[] {1, 7, 60}) {
                for (int what = 0; what < 2; what++) {
                    d.due("first", x.first(n, what), y.first(n, what));
                    d.due("loose", x.loose(n, what), y.loose(n, what));
                }
            }
            x.sheet(0, 0, 24);
            y.sheet(0, 0, 24);
            d.due("whose", x.whose(0, 0), y.whose(0, 0));
            d.due("whose", x.whose(0, 1), y.whose(0, 1));
            d.due("nothing changes", x.count(1), 9999);
            d.due("no HOURS go by", x.hours(5), 0);
        }
    }

    private static QuarterTurn lateOne(int seed, boolean late) {
        QuarterTurn x = new QuarterTurn();
        x.rule(1, 40);
        if (late) {
            for (int i = 0; i < 100; i++) x.hours(100);
        } else {
            x.hours(3);
        }
        x.rule(0, seed % 2);
        x.rule(2, 700 + 900 * seed);
        x.seed(5 + seed);
        for (int i = 0; i < 5; i++) {
            x.joint((i + seed) % 5, 8 + 2 * i, 9 * i, i);
            x.set(i, SLANT, 2 * i);
            x.set(i, DIRT, 9 - i);
        }
        return x;
    }

    /** The draws of a thought are those that would come, and none is used up by it. */
    static void thoughtsByZ() {
        QuarterTurn x = new QuarterTurn();
        x.joint(JOINT, 30, 0, 0);
        x.joint(JOINT, 20, 0, 0);
        x.rule(1, 50);
        for (int z : new int[] {3, 4, 5, -9, MAX, MIN}) {
            x.seed(z);
            int drops = x.behind(20, 0), again = x.behind(20, 0), tight = x.loose(20, 1);
            x.first(20, 0);
            x.mend(0, 20, 0);
            x.becomes(0, 20, 0);
            x.full();
            x.shut(0);
            x.quarter(0, 0);
            d.due("the same again", drops, again);
            d.due("z is as it was", x.count(7), z);
            QuarterTurn y = new QuarterTurn();
            y.joint(JOINT, 30, 0, 0);
            y.joint(JOINT, 20, 0, 0);
            y.rule(1, 50);
            y.seed(z);
            y.hours(20);
            d.due("as in earnest", drops, y.sink(0));
            d.due("one less than in earnest", tight, y.sink(8) - 1);
        }
    }

    // ---- 5 THE HOURS TOLD

    /** Of n HOURS, one behind the other, by THE IMAGE: DROPS; TIGHT of all JOINTS, together, behind each. */
    static void theHoursTold() {
        for (int n = 1; n <= 30; n++) {
            QuarterTurn x = new QuarterTurn();
            x.seed(n);
            x.rule(1, 90);
            x.joint(JOINT, 30, 0, 0);
            x.joint(ASLANT, 7, 0, 0);
            x.hours(4);
            x.keep();
            for (int h = 0; h < n; h++) {
                x.hours(1);
                x.tell(x.sink(0));
                x.tell(x.sink(8));
            }
            d.due(n + " HOURS", x.check(n), 0);
            d.due("none wait", x.count(5), 0);
        }
    }
}
