/**
 * Promises 1 to 45 at their bounds: the least and the most that a call takes, empty and full, the first and the last.
 * What stands beyond a bound is refused: RefusalsTest. What the bounds of "Terms" give: TermsTest.
 */
public final class BoundsTest {
    private static final int BAD = -1000000001, NO = -1000000002, FULL = -1000000003, NONE = -1000000005;
    private static final int NOTHING = -1000000011, KIND = -1000000012, INDEX = -1000000013;
    private static final int MAX = Integer.MAX_VALUE, MIN = Integer.MIN_VALUE;
    private static final Due d = new Due("BoundsTest");

    public static void main(String[] args) {
        p1NewObject();
        p2Joint();
        p3Told();
        p5Turns();
        p6Set();
        p8Rule();
        p9Empty();
        p10Deal();
        p11Seed();
        p12Hours();
        p12HoursUpTo9999();
        p13Sink();
        p14And15SeenFrom();
        p16Quarter();
        p17Behind();
        p18Full();
        p19Shut();
        p20Mend();
        p21First();
        p22Becomes();
        p23Loose();
        p24Whose();
        p25And26FeeFine();
        p27And28FeedTrim();
        p29Text();
        p30And31TextToldWhy();
        p32Sheet();
        p33Mark();
        p34Pour();
        p35Reads();
        p36Copy();
        p36CopyAsTheyWere();
        p37Lay();
        p38Ask();
        p39Item();
        p40Rest();
        p41Tell();
        p42Check();
        p42CheckFewer();
        p43And44KeepBack();
        p45Count();
        d.end();
    }

    private static QuarterTurn calm() {
        QuarterTurn x = new QuarterTurn();
        x.rule(1, 0);
        return x;
    }

    /** Eight JOINTS of a KIND, none lower than another, and no SHAKE. */
    private static QuarterTurn eight(int kind, int tight) {
        QuarterTurn x = calm();
        for (int j = 0; j < 8; j++) x.joint(kind, tight, 0, 5);
        return x;
    }

    private static int drawn(int z, int draws) {
        int now = z;
        for (int i = 0; i < draws; i++) now = now * 1103515245 + 12345;
        return now;
    }

    private static void row(QuarterTurn x, int sheet, int sort, int... places) {
        x.sheet(sheet, sort, places.length);
        for (int i = 0; i < places.length; i++) x.mark(sheet, i, places[i]);
    }

    private static void is(String name, QuarterTurn x, int sheet, int... places) {
        x.lay(4, 2, sheet);
        for (int i = 0; i < places.length; i++) d.due(name + ": place " + i, x.item(4, i), places[i]);
        d.due(name + ": no more places", x.item(4, places.length), INDEX);
    }

    static void p1NewObject() {
        QuarterTurn x = new QuarterTurn();
        d.due("no JOINTS", x.count(0), 0);
        d.due("no JOINTS: told", x.told(0, 0), BAD);
        d.due("no JOINTS: sets", x.sink(7), 0);
        d.due("no IMAGE: back", x.back(), NO);
        d.due("no IMAGE: check", x.check(1), NO);
        d.due("no TEXTS", x.textTold(0, 0), BAD);
        d.due("no bytes", x.trim(1), BAD);
        d.due("no bytes", x.text(), -100);
        for (int s = 0; s < 4; s++) {
            d.due("MISSING: pour", x.pour(s), NOTHING);
            d.due("MISSING: reads", x.reads(s), NOTHING);
            d.due("MISSING: whose", x.whose(s, 0), NOTHING);
            d.due("MISSING: mark", x.mark(s, 0, 0), NOTHING);
            d.due("MISSING: copy", x.copy(s, 0, s, 0, 0), NOTHING);
            d.due("MISSING: lay", x.lay(0, 2, s), NOTHING);
        }
        for (int s = 0; s < 5; s++) {
            d.due("nothing: ask", x.ask(s, 0), NOTHING);
            d.due("nothing: item", x.item(s, 0), NOTHING);
            d.due("nothing: rest", x.rest(s, 1), NOTHING);
            d.due("nothing: lay", x.lay(s, 0, 0), 0);
        }
        int[] rules = {0, 20, 2000};
        for (int what = 0; what < 3; what++) d.due("rule " + what + " at first", x.rule(what, 0), rules[what]);
        d.due("z at first", x.seed(1), 1);
        d.due("nothing in the pot", x.empty(), 0);
        d.due("no number waits", x.tell(5), 1);
        d.due("a pot that takes 0 is full", x.full(), 0);
        d.due("one object is not another", new QuarterTurn().count(5), 0);
    }

    static void p2Joint() {
        QuarterTurn x = new QuarterTurn();
        for (int all = 0; all < 16; all++) {
            if (all == 8) x = new QuarterTurn();
            int[] due = {(all & 1) * 5, (all >> 1 & 1) * 40, (all >> 2 & 1) * 40, 0, 0, 0, (all >> 3 & 1) * 9, 0};
            d.due("its number", x.joint(due[0], due[1], due[2], due[6]), all % 8);
            for (int what = 0; what < 8; what++) d.due("told " + what, x.told(all % 8, what), due[what]);
        }
        d.due("a ninth", x.joint(0, 0, 0, 0), FULL);
        // 0 at first, also where another JOINT was that an IMAGE has not
        QuarterTurn y = calm();
        y.keep();
        for (int time = 0; time < 2; time++) {
            y.joint(0, 11, 0, 0);
            for (int what = 2; what <= 5; what++) y.set(0, what, 9);
            Tapes.tell(y, "leak 2");
            y.hours(1);
            d.due("it swells", y.told(0, 7), 1);
            y.back();
            d.due("one more JOINT", time == 0 ? y.joint(1, 2, 3, 4) : y.deal(1) - 1, 0);
            int z = y.count(7);
            for (int what : new int[] {3, 4, 5, 7}) d.due("0 at first: told " + what, y.told(0, what), 0);
            d.due("z", z, time == 0 ? 1 : drawn(1, 4));
            y.back();
        }
    }

    static void p3Told() {
        QuarterTurn x = new QuarterTurn();
        for (int j = 0; j < 8; j++) x.joint(j % 6, 3 * j, 4 * j, j);
        for (int what = 0; what <= 12; what++) {
            for (int j = 0; j < 8; j++) d.due("told is no refusal", x.told(j, what) > -7 ? 1 : 0, 1);
            d.due("told, a ninth", x.told(8, what), BAD);
        }
        d.due("told 11 of the first", x.told(0, 11), 0);
        d.due("told 11 of the last", x.told(7, 11), 0);
    }

    static void p5Turns() {
        QuarterTurn x = eight(0, 10);
        for (int kind = 0; kind < 6; kind++) {
            for (int to = 0; to < 6; to++) {
                x.turns(7, kind);
                d.due("what it was", x.turns(7, to), kind);
                d.due("what it is", x.told(7, 0), to);
            }
        }
        d.due("the others are as they were", x.told(6, 0), 0);
        d.due("CRACKS are none", x.sink(3), 0);
        d.due("no draws", x.count(7), 1);
    }

    static void p6Set() {
        int[] most = {0, 0, 40, 9, 9, 9, 9};
        for (int j = 0; j < 8; j += 7) {
            for (int what = 2; what <= 6; what++) {
                QuarterTurn x = eight(0, 10);
                int was = what == 6 ? 5 : 0;
                for (int v : new int[] {0, 1, most[what] - 1, most[what], 0}) {
                    d.due("what it was", x.set(j, what, v), was);
                    d.due("what it is", x.told(j, what), v);
                    was = v;
                }
                d.due("beyond", x.set(j, what, most[what] + 1), BAD);
                x.set(j, what, most[what]);
                for (int other = 0; other < 8; other++) {
                    int due = other == 1 ? 10 : other == 6 ? 5 : 0;
                    d.due("the others' " + other, x.told(7 - j, other), due);
                    if (other != what) d.due("its " + other, x.told(j, other), due);
                }
            }
        }
    }

    static void p8Rule() {
        int[] most = {1, 100, 9999};
        for (int what = 0; what < 3; what++) {
            QuarterTurn x = new QuarterTurn();
            x.rule(what, 0);
            d.due("what it was: the least", x.rule(what, most[what]), 0);
            d.due("beyond", x.rule(what, most[what] + 1), BAD);
            d.due("what it was: the most", x.rule(what, 1), most[what]);
            int[] due = {0, 20, 2000};
            due[what] = 1;
            d.due("HOT", x.sink(5), due[0]);
            d.due("SHAKE", x.count(2), due[1]);
            d.due("POT", x.count(3), due[2]);
        }
    }

    static void p9Empty() {
        QuarterTurn x = eight(5, 0);
        x.rule(2, 9999);
        x.hours(30);
        d.due("a full pot", x.sink(1), 9999);
        d.due("FLOOD", x.sink(2), 480 * 30 - 9999);
        d.due("what IN was", x.empty(), 9999);
        d.due("IN 0", x.sink(1), 0);
        d.due("DROPS stay", x.sink(0), 480 * 30);
        d.due("FLOOD stays", x.sink(2), 480 * 30 - 9999);
        d.due("empty already", x.empty(), 0);
    }

    static void p10Deal() {
        for (int had = 0; had <= 8; had++) {
            for (int n = 1; n <= 8; n++) {
                QuarterTurn x = new QuarterTurn();
                for (int j = 0; j < had; j++) x.joint(0, 0, 0, 0);
                int come = Math.min(n, 8 - had);
                d.due(n + " of " + (8 - had) + " that have room", x.deal(n), come);
                d.due("JOINTS", x.count(0), had + come);
                d.due("no draws for others", x.count(7), drawn(1, 4 * come));
            }
        }
    }

    static void p11Seed() {
        QuarterTurn x = new QuarterTurn();
        int was = 1;
        for (int v : new int[] {0, -1, MAX, MIN, BAD, 1}) {
            d.due("what it was", x.seed(v), was);
            d.due("z", x.count(7), v);
            was = v;
        }
    }

    static void p12Hours() {
        QuarterTurn x = eight(5, 0);
        for (int n : new int[] {1, 2, 99, 100}) {
            int hour = x.count(1);
            d.due("DROPS of " + n + " HOURS", x.hours(n), 480 * n);
            d.due("THE HOUR", x.count(1), hour + n);
        }
        d.due("DROPS in them alone", x.sink(0), 480 * 202);
        QuarterTurn none = new QuarterTurn();
        d.due("no JOINTS", none.hours(100), 0);
        d.due("a draw each", none.count(7), drawn(1, 100));
    }

    static void p12HoursUpTo9999() {
        for (int left : new int[] {0, 1, 2, 50, 99, 100}) {
            for (int n : new int[] {1, 2, 99, 100}) {
                QuarterTurn x = calm();
                for (int i = 0; i < 98; i++) x.hours(100);
                x.hours(100);
                if (left < 99) x.hours(99 - left);
                if (left == 100) x = oneHourLess();
                x.joint(5, 0, 0, 0);
                int z = x.count(7), go = Math.min(n, left);
                d.due("THE HOUR", x.count(1), 9999 - left);
                d.due("DROPS of " + n + ", " + left + " left", x.hours(n), 60 * go);
                d.due("THE HOUR then", x.count(1), 9999 - left + go);
                d.due("draws", x.count(7), drawn(z, go));
                d.due("DROPS", x.sink(0), 60 * go);
            }
        }
    }

    /** THE HOUR is 9899. */
    private static QuarterTurn oneHourLess() {
        QuarterTurn x = calm();
        for (int i = 0; i < 98; i++) x.hours(100);
        x.hours(99);
        return x;
    }

    static void p13Sink() {
        for (int set = 0; set < 256; set++) {
            QuarterTurn x = calm();
            int tight = 0, leaks = 0;
            for (int j = 0; j < 8; j++) {
                boolean cracked = (set >> j & 1) == 1;
                x.joint(cracked ? 5 : j % 5, j * 5, 0, 0);
                tight += j * 5;
                leaks += x.told(j, 9);
            }
            d.due("those that are CRACKED", x.sink(7), set);
            d.due("TIGHT of all", x.sink(8), tight);
            d.due("what all LEAK", x.sink(6), leaks);
        }
        QuarterTurn x = eight(5, 40);
        d.due("the most TIGHT", x.sink(8), 320);
        d.due("all CRACKED", x.sink(7), 255);
        d.due("what all LEAK", x.sink(6), 480);
        d.due("HOT", x.sink(5), 0);
        x.rule(0, 1);
        d.due("HOT", x.sink(5), 1);
    }

    static void p14And15SeenFrom() {
        for (int low = 0; low < 8; low++) {
            QuarterTurn x = calm();
            for (int j = 0; j < 8; j++) x.joint(5, 0, 0, Math.abs(j - low));
            for (int j = 0; j < 8; j++) {
                d.due("all HANG at " + low + ": from", x.from(j), j == low ? 255 : 0);
                d.due("all HANG at " + low + ": seen", x.seen(j), j == low ? 480 : 0);
            }
        }
        QuarterTurn y = eight(5, 0);
        for (int j = 0; j < 8; j++) {
            d.due("each HANGS at itself: from", y.from(j), 1 << j);
            d.due("each HANGS at itself: seen", y.seen(j), 60);
        }
    }

    static void p16Quarter() {
        // TIGHT, the number, what it LEAKS then: of several the least; -9 .. 9, held within 0 .. 40
        int[][] all = {{0, 9, 1}, {1, 9, 0}, {2, 8, 0}, {9, 1, 0}, {10, 0, 0}, {11, -1, 0}, {18, -8, 0}, {19, -9, 0}, {20, -9, 1},
            {40, -9, 21}};
        for (int[] a : all) {
            QuarterTurn x = calm();
            x.joint(0, a[0], 40, 0);
            d.due("QUARTER of TIGHT " + a[0], x.quarter(0, 0), a[1]);
            d.due("QUARTER of TIGHT " + a[0] + ": all LEAK", x.quarter(0, 1), a[2]);
            x.joint(5, 0, 0, 0);
            d.due("all together", x.quarter(0, 1), a[2] + 60);
            d.due("a CRACKED one: all are alike", x.quarter(1, 0), -9);
            d.due("nothing CRACKS", x.sink(3), 0);
            d.due("nothing changes", x.told(0, 1), a[0]);
        }
        String[] texts = {"leak 40-g", "leak g", "leak 5"};
        int[] tights = {40, 39, 38, 35, 31, 30, 0, 1, 5, 8, 9, 10};
        int[][] due = {{0, 1, 2, 5, 9, 9, 9, 9, 9, 9, 9, 9}, {-9, -9, -9, -9, -9, -9, -9, -9, -9, -9, -9, -9},
            {-9, -9, -9, -9, -9, -9, -9, -9, -9, -9, -9, -9}};
        for (int t = 0; t < texts.length; t++) {
            for (int i = 0; i < tights.length; i++) {
                QuarterTurn x = calm();
                x.joint(0, tights[i], 0, 0);
                Tapes.tell(x, texts[t]);
                d.due(texts[t] + ", TIGHT " + tights[i], x.quarter(0, 0), due[t][i]);
                int least = t == 0 ? Math.max(0, 31 - tights[i]) : t == 1 ? Math.max(0, tights[i] - 9) : 5;
                d.due(texts[t] + ", TIGHT " + tights[i] + ": all LEAK", x.quarter(0, 1), least);
            }
        }
    }

    static void p17Behind() {
        QuarterTurn x = eight(5, 3);
        x.rule(2, 1000);
        for (int n : new int[] {0, 1, 2, 3, 99, 100}) {
            int drops = 480 * n;
            d.due("DROPS behind " + n, x.behind(n, 0), drops);
            d.due("FLOOD behind " + n, x.behind(n, 1), Math.max(0, drops - 1000));
            d.due("IN behind " + n, x.behind(n, 2), Math.min(1000, drops));
            for (int j = 0; j < 8; j++) d.due("JOINT " + j + " LEAKS behind " + n, x.behind(n, 3 + j), 60);
            d.due("a ninth JOINT", x.behind(n, 11), BAD);
        }
        d.due("nothing changes", x.sink(0) + x.count(1), 0);
        QuarterTurn y = calm();
        y.joint(0, 13, 0, 0);
        // from 13 it swells down to 0; hot from behind six hours on, GRIP is 11
        int[] due = {3, 2, 1, 0, 0, 0, 0, 0, 0};
        for (int n = 0; n < due.length; n++) d.due("LEAKS behind " + n, y.behind(n, 3), due[n]);
    }

    static void p18Full() {
        QuarterTurn x = eight(0, 10);
        Tapes.tell(x, "leak 5");
        int[][] all = {{0, 0}, {1, 1}, {39, 1}, {40, 1}, {41, 2}, {7959, 199}, {7960, 199}, {7961, 200}, {8000, 200},
            {8001, NONE}, {9999, NONE}};
        for (int[] a : all) {
            x.rule(2, a[0]);
            d.due("POT " + a[0], x.full(), a[1]);
        }
        x.rule(2, 120);
        x.hours(2);
        d.due("two hours in", x.full(), 1);
        x.hours(1);
        d.due("just full", x.full(), 0);
        x.rule(2, 119);
        d.due("more than POT", x.full(), 0);
        x.empty();
        d.due("emptied", x.full(), 3);
        d.due("nothing drips", new QuarterTurn().full(), NONE);
    }

    static void p19Shut() {
        // SWOLLEN 1 more an hour: shut behind as many hours as it LEAKS, 3 at most
        for (int leak = 0; leak <= 4; leak++) {
            QuarterTurn x = eight(0, 10);
            Tapes.tell(x, "leak " + leak);
            for (int j = 0; j < 8; j += 7) d.due("LEAKS " + leak, x.shut(j), leak == 4 ? NONE : leak);
        }
        QuarterTurn c = eight(5, 10);
        d.due("CRACKED", c.shut(7), NONE);
        // hot and cold: GRIP 12 leaks 2 when hot only
        QuarterTurn h = calm();
        h.joint(0, 14, 0, 0);
        Tapes.tell(h, "leak 4*(g>12)");
        d.due("once it is hot", h.shut(0), 6);
        h.hours(5);
        d.due("an hour ahead", h.shut(0), 1);
        h.hours(1);
        d.due("hot now", h.shut(0), 0);
    }

    static void p20Mend() {
        for (int n : new int[] {1, 2, 59, 60}) {
            QuarterTurn x = eight(5, 0);
            for (int j = 0; j < 8; j += 7) {
                d.due("all ways alike: the least", x.mend(j, n, 0), 0);
                d.due("DROPS", x.mend(j, n, 1), 480 * n);
            }
            // TAPE 7 and 8: half of one more is 4; of 9 no more
            for (int tape = 6; tape <= 9; tape++) {
                QuarterTurn y = calm();
                y.joint(0, 0, 0, 0);
                Tapes.tell(y, "leak 60-g*10");
                y.set(0, 5, tape);
                int half = tape / 2, more = Math.min(9, tape + 1) / 2;
                d.due("TAPE " + tape, y.mend(0, n, 0), more > half ? 3 : 0);
                d.due("TAPE " + tape + ": DROPS", y.mend(0, n, 1), n * (60 - 10 * more));
            }
        }
        // RING, DIRT, SLANT, which: what a fifth of RING, DIRT, SLANT have in it; of several the least
        int[][] all = {{20, 4, 4, 0}, {19, 4, 4, 1}, {19, 3, 4, 2}, {0, 0, 0, 0}, {4, 0, 1, 2}, {4, 1, 1, 1}, {9, 1, 1, 0}};
        for (int[] a : all) {
            QuarterTurn x = calm();
            x.joint(4, 12, a[0], 0);
            x.set(0, 3, a[1]);
            x.set(0, 4, a[2]);
            Tapes.tell(x, "leak r/5+7");
            d.due("RING " + a[0] + ", DIRT " + a[1] + ", SLANT " + a[2] + ": which", x.mend(0, 1, 0), a[3]);
            int most = Math.max(a[0] / 5, Math.max(a[1], a[2]));
            d.due("DROPS", x.mend(0, 1, 1), 7 + a[0] / 5 + a[1] + a[2] - most);
        }
        // RING becomes 0 itself, TAPE 1 more itself
        QuarterTurn r = calm();
        r.joint(0, 10, 1, 0);
        Tapes.tell(r, "leak 20+r");
        d.due("RING 0", r.mend(0, 1, 0), 0);
        d.due("RING 0", r.mend(0, 1, 1), 20);
        Tapes.tell(r, "leak 90-a*10");
        for (int tape = 0; tape <= 9; tape++) {
            r.set(0, 5, tape);
            d.due("TAPE " + tape + " and 1 more", r.mend(0, 1, 0), tape == 9 ? 0 : 3);
            d.due("TAPE " + tape + " and 1 more", r.mend(0, 1, 1), 90 - 10 * Math.min(9, tape + 1));
            d.due("TAPE stays", r.told(0, 5), tape);
        }
    }

    static void p21First() {
        for (int n : new int[] {1, 2, 59, 60}) {
            QuarterTurn x = eight(5, 40);
            d.due("all alike: the least", x.first(n, 0), 0);
            d.due("DROPS", x.first(n, 1), 480 * n);
            QuarterTurn y = calm();
            Tapes.tell(y, "leak 99-g");
            y.joint(5, 0, 0, 0);
            y.joint(0, 40, 0, 0);
            y.joint(0, 39, 0, 0);
            y.joint(0, 38, 0, 0);
            d.due("40 at most: the first that can be", y.first(n, 0), 2);
            y.turns(2, 5);
            d.due("the next", y.first(n, 0), 3);
            y.turns(3, 5);
            d.due("none makes less: the least", y.first(n, 0), 0);
        }
        QuarterTurn z = calm();
        z.joint(0, 25, 40, 0);
        z.joint(0, 4, 0, 0);
        d.due("nothing CRACKS", z.first(1, 1), 15 + 5);
        d.due("the last", z.first(1, 0), 1);
    }

    static void p22Becomes() {
        for (int n : new int[] {1, 2, 59, 60}) {
            QuarterTurn x = eight(5, 10);
            Tapes.tell(x, "leak 60");
            for (int j = 0; j < 8; j += 7) {
                d.due("60 as one of any KIND: the least", x.becomes(j, n, 0), 0);
                d.due("DROPS", x.becomes(j, n, 1), 480 * n);
            }
            Tapes.tell(x, "leak 61");
            d.due("61 or CRACKED", x.becomes(7, n, 0), 5);
            Tapes.tell(x, "leak 59");
            d.due("59 or CRACKED", x.becomes(7, n, 0), 0);
            d.due("its KIND stays", x.told(7, 0), 5);
        }
    }

    static void p23Loose() {
        for (int n : new int[] {1, 2, 59, 60}) {
            QuarterTurn x = calm();
            int[] tight = {0, 0, 1, 40, 0, 0, 0, 0};
            for (int t : tight) x.joint(0, t, 0, 0);
            d.due("0 at least: the first that can be", x.loose(n, 0), 2);
            d.due("TIGHT of all", x.loose(n, 1), 40);
            x.turn(2, -1);
            d.due("the next", x.loose(n, 0), 3);
            d.due("TIGHT of all", x.loose(n, 1), 39);
            QuarterTurn y = eight(0, 0);
            d.due("none makes less: the least", y.loose(n, 0), 0);
            d.due("TIGHT of all", y.loose(n, 1), 0);
        }
    }

    static void p24Whose() {
        // 24 places, the last one a number alone: behind 23 HOURS
        QuarterTurn x = calm();
        for (int tight : new int[] {10, 30, 12}) x.joint(0, tight, 0, 0);
        x.sheet(0, 1, 24);
        for (int k = 0; k < 24; k++) x.mark(0, k, NONE);
        for (int j = 0; j < 3; j++) {
            int leaks = x.behind(23, 3 + j);
            x.mark(0, 23, leaks);
            int first = 0;
            while (x.behind(23, 3 + first) != leaks) first++;
            d.due("behind 23 HOURS", x.whose(0, 0), first);
            d.due("behind 23 HOURS: differ", x.whose(0, 1), 0);
        }
        x.mark(0, 23, NONE);
        d.due("no place is a number: the least", x.whose(0, 0), 0);
        d.due("no place is a number", x.whose(0, 1), 0);
        row(x, 1, 1, NONE, 18);
        d.due("k counts the places that are NO NUMBER", x.whose(1, 0), 1);
        d.due("k counts the places that are NO NUMBER", x.whose(1, 1), 2);
        row(x, 1, 1, 2);
        d.due("place 0: behind 0 HOURS", x.whose(1, 0), 2);
        d.due("place 0: behind 0 HOURS", x.whose(1, 1), 0);
        // signs left out: 0 and 20 differ from 10 alike; of several the least
        row(x, 2, 0, 10);
        d.due("of several the least", x.whose(2, 0), 2);
        row(x, 2, 0, 11);
        d.due("of several the least", x.whose(2, 0), 1);
        row(x, 2, 0, 0, 0, 0);
        d.due("together", x.whose(2, 1), 0);
        x.sheet(2, 0, 0);
        d.due("no places: the least", x.whose(2, 0), 0);
        d.due("no places", x.whose(2, 1), 0);
        row(x, 3, 1, -99999, 99999);
        d.due("far off", x.whose(3, 1), 99999 + 99999);
        QuarterTurn tie = eight(5, 0);
        row(tie, 0, 0, 7, 8);
        d.due("all alike: the least", tie.whose(0, 0), 0);
        d.due("all alike", tie.whose(0, 1), 53 + 52);
    }

    static void p25And26FeeFine() {
        QuarterTurn x = eight(5, 40);
        d.due("fee without a TEXT, no DROPS", x.fee(), 0);
        x.rule(2, 0);
        x.hours(2);
        d.due("fee without a TEXT", x.fee(), 960);
        for (int j = 0; j < 8; j += 7) d.due("fine without a TEXT", x.fine(j), 40);
        d.due("fine, a ninth", x.fine(8), BAD);
        String[] texts = {"0", "9999", "d", "f", "d-f", "0-d", "2048*1024*1024", "2048*1024*1024-1", "d/(f-960)"};
        int[] due = {0, 9999, 960, 960, 0, -960, MIN, MAX, 0};
        for (int i = 0; i < texts.length; i++) {
            d.due("fee " + texts[i], Tapes.tell(x, "fee " + texts[i]), i);
            d.due("fee " + texts[i], x.fee(), due[i]);
        }
        Tapes.tell(x, "fine 0-t*9999*9999");
        d.due("fine wraps", x.fine(7), -40 * 9999 * 9999);
        d.due("fine, a ninth", x.fine(8), BAD);
    }

    static void p27And28FeedTrim() {
        for (int had = 0; had <= 96; had++) {
            QuarterTurn x = new QuarterTurn();
            for (int i = 0; i < 8; i++) x.feed(MIN, -1, MAX);
            d.due("trim to " + had, x.trim(had), had);
            d.due("bytes", x.count(6), had);
            d.due("one more than it has", x.trim(had + 1), BAD);
            d.due("as many as it has", x.trim(had), had);
            d.due("twelve more", x.feed(0, 0, 0), had <= 84 ? had + 12 : FULL);
            d.due("bytes then", x.count(6), had <= 84 ? had + 12 : had);
        }
        // the highest byte of each number first: "fee 1+20*300/4" and what trim leaves of it
        QuarterTurn x = new QuarterTurn();
        x.feed(0x66656520, 0x312b3230, 0x2a333030);
        x.feed(0x2f342020, 0xffffffff, 0x80000000);
        int[] due = {1, 1, 3, 21, 21, 61, 601, 6001, 6001, 1501, 1501};
        int[] lengths = {5, 6, 7, 8, 9, 10, 11, 12, 13, 14, 16};
        for (int i = 0; i < lengths.length; i++) {
            QuarterTurn y = new QuarterTurn();
            y.feed(0x66656520, 0x312b3230, 0x2a333030);
            y.feed(0x2f342020, 0xffffffff, 0x80000000);
            y.trim(lengths[i]);
            boolean open = i == 1 || i == 4 || i == 8;
            d.due("the first " + lengths[i], y.text(), open ? -100 - lengths[i] : 0);
            if (!open) d.due("fee of the first " + lengths[i], y.fee(), due[i]);
        }
        d.due("a byte above 127", x.text(), -116);
    }

    static void p29Text() {
        QuarterTurn x = new QuarterTurn();
        for (int i = 0; i < 14; i++) {
            d.due("its number", Tapes.tell(x, "fee " + i), i);
            d.due("TEXTS", x.count(4), i + 1);
            d.due("THE TAPE is used up", x.count(6), 0);
        }
        d.due("a fifteenth", Tapes.tell(x, "fee 14"), FULL);
        d.due("THE TAPE is used up", x.count(6), 0);
        d.due("the fourteenth counts", x.fee(), 13);
        d.due("an empty tape is at FAULT, ahead of FULL", x.text(), -100);
        QuarterTurn y = new QuarterTurn();
        for (int i = 0; i < 20; i++) {
            d.due("a FAULT takes no room", Tapes.tell(y, "fee"), -103);
            d.due("THE TAPE is used up", y.count(6), 0);
        }
        d.due("its number", Tapes.tell(y, "fee 1"), 0);
        String longest = "fine " + "t+".repeat(45) + "s";
        d.due("96 bytes", longest.length(), 96);
        d.due("a TEXT of 96 bytes", Tapes.tell(y, longest), 1);
        d.due("its NAMES", y.textTold(1, 1), 46);
        y.joint(0, 3, 0, 0);
        d.due("what it gives", y.fine(0), 135);
    }

    static void p30And31TextToldWhy() {
        QuarterTurn x = new QuarterTurn();
        String[] keys = {"leak", "fee", "fine"};
        int[] last = {NONE, NONE, NONE};
        for (int i = 0; i < 14; i++) {
            int key = (i * 5 + i / 4) % 3;
            Tapes.tell(x, keys[key] + " 1" + "+2".repeat(i));
            last[key] = i;
            d.due("KEY of the last", x.textTold(i, 0), key);
            d.due("NUMBERS of the last", x.textTold(i, 1), i + 1);
            d.due("one more", x.textTold(i + 1, 0), BAD);
            for (int k = 0; k < 3; k++) d.due("why " + k, x.why(k), last[k]);
        }
        d.due("KEY of the first", x.textTold(0, 0), 0);
        d.due("NUMBERS of the first", x.textTold(0, 1), 1);
    }

    static void p32Sheet() {
        for (int s = 0; s < 4; s++) {
            for (int sort = 0; sort < 2; sort++) {
                QuarterTurn x = new QuarterTurn();
                for (int n : new int[] {24, 1, 0, 23, 24}) {
                    d.due("places", x.sheet(s, sort, n), n);
                    is("all 0", x, s, new int[n]);
                    for (int p = 0; p < n; p++) x.mark(s, p, -1 - p);
                }
                d.due("25", x.sheet(s, sort, 25), BAD);
                d.due("the last place stays", x.lay(0, 2, s) == 0 ? x.item(0, 23) : BAD, -24);
                for (int n : new int[] {0, 25, -1, MAX, MIN}) {
                    x.sheet(s, sort, 3);
                    d.due("MISSING, n any", x.sheet(s, -1, n), 0);
                    d.due("MISSING", x.reads(s), NOTHING);
                }
                for (int other = 0; other < 4; other++) d.due("the others", x.reads(other), NOTHING);
            }
        }
    }

    static void p33Mark() {
        QuarterTurn x = new QuarterTurn();
        x.sheet(0, 0, 24);
        x.sheet(3, 1, 24);
        int[] told = {0, -1, 32767, 32768, 65535, 65536, -32768, -32769, 98304, MAX, MIN, NONE + 1, NONE - 1};
        for (int p : new int[] {0, 23}) {
            for (int v : told) {
                d.due("mark of shorts", x.mark(0, p, v), 1);
                x.lay(0, 2, 0);
                d.due("its lowest 16 bits", x.item(0, p), ((v & 65535) ^ 32768) - 32768);
            }
            for (int v : new int[] {0, 99999, -99999, 32768, -32769, 65536}) {
                d.due("mark of floats", x.mark(3, p, v), 1);
                x.lay(0, 2, 3);
                d.due("v", x.item(0, p), v);
                d.due("NO NUMBER", x.mark(3, p, NONE), 1);
                x.lay(0, 2, 3);
                d.due("NO NUMBER", x.item(0, p), KIND);
            }
        }
        x.sheet(1, 0, 1);
        d.due("the only place", x.mark(1, 0, 5), 1);
        d.due("beyond it", x.mark(1, 1, 5), INDEX);
    }

    static void p34Pour() {
        int[][] told = {{-99999, 0}, {-1, 0}, {0, 0}, {1, 1}, {39, 39}, {40, 40}, {41, 40}, {99999, 40}};
        for (int[] t : told) {
            QuarterTurn x = eight(5, 20);
            x.sheet(0, 1, 24);
            for (int p = 0; p < 24; p++) x.mark(0, p, t[0]);
            d.due("how many are otherwise", x.pour(0), 8);
            for (int j = 0; j < 8; j++) d.due("held within 0 .. 40", x.told(j, 1), t[1]);
            d.due("none is otherwise now", x.pour(0), 0);
        }
        for (int n = 0; n <= 10; n++) {
            QuarterTurn x = eight(0, 5);
            x.sheet(0, 0, n);
            d.due("a SHEET of " + n, x.pour(0), Math.min(8, n));
            for (int j = 0; j < 8; j++) d.due("beyond the SHEET they stay", x.told(j, 1), j < n ? 0 : 5);
        }
        QuarterTurn y = eight(0, 5);
        row(y, 0, 1, NONE, 6, NONE, 5, NONE, 7, 4, NONE, NONE);
        d.due("NO NUMBER: they stay; 5 is as it was", y.pour(0), 3);
        int[] due = {5, 6, 5, 5, 5, 7, 4, 5};
        for (int j = 0; j < 8; j++) d.due("TIGHT", y.told(j, 1), due[j]);
        QuarterTurn old = calm();
        old.joint(0, 5, 40, 0);
        row(old, 0, 0, 40);
        d.due("far above what it BEARS", old.pour(0), 1);
        d.due("nothing CRACKS", old.sink(3), 0);
        d.due("no draw", old.count(7), 1);
        row(old, 0, 0, 41);
        d.due("40 already", old.pour(0), 0);
        row(old, 0, 0, -7);
        old.pour(0);
        row(old, 0, 0, -8);
        d.due("0 already", old.pour(0), 0);
        QuarterTurn none = new QuarterTurn();
        none.sheet(0, 0, 24);
        d.due("no JOINTS", none.pour(0), 0);
    }

    static void p35Reads() {
        QuarterTurn x = eight(5, 0);
        for (int n = 0; n <= 24; n++) {
            x.sheet(0, 1, n);
            for (int p = 0; p < n; p++) x.mark(0, p, 60);
            d.due("right for all JOINTS, " + n + " places", x.reads(0), n <= 8 ? NONE : 8);
        }
        for (int p = 8; p < 24; p++) x.mark(0, p, NONE);
        d.due("NO NUMBER beyond", x.reads(0), NONE);
        x.mark(0, 23, 0);
        d.due("the last place", x.reads(0), 23);
        x.mark(0, 8, 60);
        d.due("the first beyond", x.reads(0), 8);
        for (int p = 7; p >= 0; p--) {
            x.mark(0, p, 59 + 2 * (p % 2));
            d.due("the first", x.reads(0), p);
        }
        for (int p = 0; p < 7; p++) {
            x.mark(0, p, NONE);
            d.due("of numbers alone", x.reads(0), p + 1);
        }
        QuarterTurn none = new QuarterTurn();
        none.sheet(1, 0, 1);
        d.due("no JOINTS", none.reads(1), 0);
        row(none, 1, 1, NONE, NONE);
        d.due("no JOINTS, no numbers", none.reads(1), NONE);
    }

    static void p36Copy() {
        QuarterTurn x = new QuarterTurn();
        int[] up = new int[24], none = new int[24];
        for (int p = 0; p < 24; p++) up[p] = 100 + p;
        row(x, 0, 0, up);
        x.sheet(1, 0, 24);
        d.due("all", x.copy(0, 0, 1, 0, 24), 24);
        is("all", x, 1, up);
        x.sheet(1, 0, 24);
        d.due("the last alone", x.copy(0, 23, 1, 23, 1), 1);
        none[23] = 123;
        is("the last alone", x, 1, none);
        d.due("the first to the last but one", x.copy(0, 0, 1, 22, 1), 1);
        none[22] = 100;
        is("the first to the last but one", x, 1, none);
        for (int p = 0; p <= 24; p++) {
            d.due("none from " + p, x.copy(0, p, 1, 24 - p, 0), 0);
            d.due("one too many from " + p, x.copy(0, p, 1, 0, 25 - p), INDEX);
            d.due("one too many to " + p, x.copy(0, 0, 1, p, 25 - p), INDEX);
        }
        is("as it was", x, 1, none);
        d.due("none beyond", x.copy(0, 25, 1, 0, 0), INDEX);
        d.due("none beyond", x.copy(0, 0, 1, 25, 0), INDEX);
        x.sheet(2, 0, 0);
        d.due("none of none", x.copy(2, 0, 2, 0, 0), 0);
        d.due("one of none", x.copy(2, 0, 2, 0, 1), INDEX);
        row(x, 2, 1, NONE, -99999, 99999);
        x.sheet(3, 1, 4);
        d.due("NO NUMBER too", x.copy(2, 0, 3, 1, 3), 3);
        is("NO NUMBER too", x, 3, 0, KIND, -99999, 99999);
        x.mark(2, 1, 7);
        is("a row of its own", x, 3, 0, KIND, -99999, 99999);
    }

    /** The same SHEET: the places come as they were, whichever way they overlap. */
    static void p36CopyAsTheyWere() {
        for (int place = 0; place <= 5; place++) {
            for (int at = 0; at <= 5; at++) {
                for (int many = 0; many <= 5 - Math.max(place, at); many++) {
                    QuarterTurn x = new QuarterTurn();
                    row(x, 0, 0, 1, 2, 3, 4, 5);
                    int[] due = {1, 2, 3, 4, 5};
                    for (int i = 0; i < many; i++) due[at + i] = 1 + place + i;
                    d.due("many", x.copy(0, place, 0, at, many), many);
                    is("as they were, " + place + " " + at + " " + many, x, 0, due);
                }
            }
        }
    }

    static void p37Lay() {
        for (int from = 0; from < 4; from++) {
            for (int to = 0; to < 4; to++) {
                for (int slot = 0; slot < 5; slot++) {
                    QuarterTurn x = eight(2, 9);
                    row(x, 3, 0, 5, 6);
                    int[] k = {MIN, 7, 3, MAX};
                    d.due("it held nothing", x.lay(slot, from, k[from]), 0);
                    d.due("it held", x.lay(slot, to, k[to]), from);
                    d.due("ask", x.ask(slot, 0), to == 0 ? NOTHING : to == 1 ? 31 : KIND);
                    d.due("item", x.item(slot, 1), to == 0 ? NOTHING : to == 2 ? 6 : KIND);
                    d.due("rest", x.rest(slot, 10), to == 0 ? NOTHING : to == 3 ? 7 : KIND);
                    for (int other = 0; other < 5; other++) {
                        if (other != slot) d.due("another SLOT", x.lay(other, 0, 0), 0);
                    }
                }
            }
        }
    }

    static void p38Ask() {
        QuarterTurn x = eight(4, 40);
        for (int slot = 0; slot < 5; slot++) {
            x.lay(slot, 1, slot == 0 ? 0 : 7);
            int[] due = {-6, KIND, -6, KIND, -6, KIND};
            for (int kind = 0; kind < 6; kind++) d.due("WORTH, by its own KIND", x.ask(slot, kind), due[kind]);
        }
        // as it is then, for good: the JOINT of an IMAGE, of another KIND, gone
        x.keep();
        x.turns(7, 5);
        x.lay(0, 1, 7);
        x.back();
        d.due("as it was then", x.ask(0, 5), 1);
        d.due("as it was then", x.ask(4, 4), -6);
        QuarterTurn y = new QuarterTurn();
        y.keep();
        y.joint(3, 10, 0, 0);
        y.lay(2, 1, 0);
        y.back();
        d.due("there are no JOINTS", y.count(0), 0);
        d.due("for good", y.ask(2, 1), 26);
        y.joint(0, 1, 0, 0);
        d.due("for good", y.ask(2, 3), 26);
    }

    static void p39Item() {
        QuarterTurn x = new QuarterTurn();
        x.sheet(0, 0, 24);
        x.mark(0, 0, -32768);
        x.mark(0, 23, 32767);
        for (int slot = 0; slot < 5; slot++) {
            x.lay(slot, 2, 0);
            d.due("the first", x.item(slot, 0), -32768);
            d.due("the last", x.item(slot, 23), 32767);
            d.due("beyond", x.item(slot, 24), INDEX);
        }
        x.mark(0, 0, 5);
        d.due("a row of its own", x.item(4, 0), -32768);
        x.sheet(0, 0, 0);
        d.due("a row of its own", x.item(4, 23), 32767);
        x.lay(1, 2, 0);
        d.due("no places", x.item(1, 0), INDEX);
        x.sheet(0, -1, 0);
        d.due("its SHEET is MISSING now", x.item(1, 0), INDEX);
        d.due("its SHEET is MISSING now", x.item(2, 23), 32767);
    }

    static void p40Rest() {
        QuarterTurn x = new QuarterTurn();
        int[] all = {0, 1, -1, 2, -2, 7, -7, MAX, MIN, MAX - 1, MIN + 1};
        for (int k : all) {
            x.lay(3, 3, k);
            for (int n : all) {
                long due = n == 0 ? NO : (long) k - (long) k / n * n;
                d.due(k + " by " + n, x.rest(3, n), due);
            }
        }
    }

    static void p41Tell() {
        QuarterTurn x = new QuarterTurn();
        for (int time = 0; time < 2; time++) {
            for (int i = 1; i <= 60; i++) d.due("how many", x.tell(MIN), i);
            for (int i = 0; i < 3; i++) d.due("60 wait", x.tell(1), FULL);
            d.due("60 wait", x.count(5), 60);
            x.check(1);
            d.due("none waits", x.count(5), 0);
        }
    }

    private static void tellAll(QuarterTurn x, int[] row, int many) {
        for (int i = 0; i < many; i++) x.tell(row[i]);
    }

    /** Else 1 and how many stand right ahead of the first that is not (or is missing, or one too many). */
    static void p42Check() {
        QuarterTurn x = eight(5, 1);
        x.keep();
        int[] row = new int[60];
        for (int i = 0; i < 60; i++) row[i] = i % 2 == 0 ? 480 * (i / 2 + 1) : 8;
        for (int n : new int[] {1, 2, 29, 30}) {
            for (int told : new int[] {0, 1, 2 * n - 1, 2 * n, 2 * n + 1, 60}) {
                if (told > 60) continue;
                QuarterTurn y = eight(5, 1);
                y.keep();
                tellAll(y, row, told);
                d.due(told + " told of " + n + " HOURS", y.check(n), told == 2 * n ? 0 : 1 + Math.min(told, 2 * n));
                d.due("none wait", y.count(5), 0);
                d.due("and again: all are missing", y.check(n), 1);
            }
            for (int wrong : new int[] {0, 1, 2 * n - 2, 2 * n - 1}) {
                for (int by : new int[] {1, -1}) {
                    QuarterTurn y = eight(5, 1);
                    y.keep();
                    row[wrong] += by;
                    tellAll(y, row, 2 * n);
                    row[wrong] -= by;
                    d.due("wrong at " + wrong + " of " + n + " HOURS", y.check(n), 1 + wrong);
                }
            }
        }
        // the two of an HOUR told the wrong way round
        tellAll(x, new int[] {8, 480}, 2);
        d.due("TIGHT ahead of DROPS", x.check(1), 1);
        QuarterTurn none = new QuarterTurn();
        none.keep();
        tellAll(none, new int[60], 60);
        d.due("no JOINTS", none.check(30), 0);
    }

    /** Fewer, if THE HOUR would be above 9999: THE HOUR of THE IMAGE. */
    static void p42CheckFewer() {
        for (int left : new int[] {0, 1, 2, 29, 30, 31}) {
            QuarterTurn x = calm();
            for (int i = 0; i < 99; i++) x.hours(100);
            x.hours(99 - left);
            x.joint(5, 1, 0, 0);
            x.keep();
            d.due("THE HOUR", x.count(1), 9999 - left);
            int[] row = new int[60];
            for (int i = 0; i < 60; i++) row[i] = i % 2 == 0 ? 60 * (i / 2 + 1) : 1;
            for (int time = 0; time < 2; time++) {
                int go = Math.min(30, left);
                tellAll(x, row, 2 * go);
                d.due("30 HOURS, " + left + " left", x.check(30), 0);
                if (go < 30) {
                    tellAll(x, row, 2 * go + 1);
                    d.due("30 HOURS, " + left + " left, one too many", x.check(30), 1 + 2 * go);
                }
                if (go > 0) {
                    tellAll(x, row, 2 * go - 1);
                    d.due("30 HOURS, " + left + " left, one is missing", x.check(30), 2 * go);
                }
                // it is THE IMAGE's hour that counts, whatever THE HOUR is now
                x.hours(100);
                d.due("THE HOUR", x.count(1), 9999);
            }
        }
        QuarterTurn y = calm();
        y.joint(5, 1, 0, 0);
        y.keep();
        for (int i = 0; i < 100; i++) y.hours(100);
        tellAll(y, new int[] {60, 1, 120, 1}, 4);
        d.due("THE IMAGE is young", y.check(2), 0);
    }

    static void p43And44KeepBack() {
        for (int many = 0; many <= 8; many++) {
            QuarterTurn x = new QuarterTurn();
            if (many > 0) x.deal(many);
            d.due("keep", x.keep(), many);
            for (int time = 0; time < 3; time++) {
                x.deal(8);
                x.seed(time);
                x.hours(3);
                d.due("back, again and again", x.back(), many);
                d.due("JOINTS", x.count(0), many);
                d.due("THE HOUR", x.count(1), 0);
                d.due("z", x.count(7), drawn(1, 4 * many));
            }
            x.deal(1);
            d.due("a new IMAGE", x.keep(), Math.min(8, many + 1));
            x.deal(8);
            d.due("back to the new one", x.back(), Math.min(8, many + 1));
        }
        QuarterTurn last = calm();
        for (int i = 0; i < 99; i++) last.hours(100);
        last.hours(98);
        last.keep();
        last.hours(1);
        d.due("THE HOUR", last.count(1), 9999);
        last.back();
        d.due("THE HOUR as it was", last.count(1), 9998);
        d.due("one more again", last.hours(2), 0);
        d.due("THE HOUR", last.count(1), 9999);
        QuarterTurn texts = new QuarterTurn();
        for (int i = 0; i < 13; i++) Tapes.tell(texts, "fee " + i);
        texts.keep();
        for (int time = 0; time < 3; time++) {
            d.due("a fourteenth", Tapes.tell(texts, "fee 50"), 13);
            d.due("a fifteenth", Tapes.tell(texts, "fee 51"), FULL);
            d.due("what it gives", texts.fee(), 50);
            d.due("back", texts.back(), 0);
            d.due("TEXTS", texts.count(4), 13);
            d.due("what the image's gives", texts.fee(), 12);
        }
    }

    static void p45Count() {
        QuarterTurn x = Twins.crowded();
        int[] most = {8, 12, 70, 900, 14, 60, 96, x.seed(0)};
        x.seed(most[7]);
        for (int what = 0; what < 8; what++) d.due("count " + what, x.count(what), most[what]);
        for (int what = 0; what < 7; what++) {
            if (what == 2 || what == 3) continue;
            d.due("a new one: count " + what, new QuarterTurn().count(what), 0);
        }
    }
}
