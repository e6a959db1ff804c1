/**
 * Promises 16 to 26: quarter, behind, full, shut, mend, first, becomes, loose, whose, fee, fine. What is thought is
 * compared with what twins of the object do in earnest, and with sums by hand.
 */
public final class ThoughtsTest {
    private static final int BAD = -1000000001, NONE = -1000000005, NOTHING = -1000000011;
    private static final Due d = new Due("ThoughtsTest");
    private static final int[] WRONG_SPANS = {0, -1, 61, Integer.MAX_VALUE, Integer.MIN_VALUE};
    private static final int[] WRONG_JOINTS = {-1, 6, 8, Integer.MAX_VALUE, Integer.MIN_VALUE};

    public static void main(String[] args) {
        quarter();
        quarterEdges();
        behind();
        full();
        shut();
        mend();
        mendByHand();
        first();
        firstByHand();
        becomes();
        loose();
        whose();
        whoseByHand();
        fee();
        fine();
        wrong();
        nothingChanges();
        d.end();
    }

    /** Six JOINTS of all KINDS, some hours old. */
    private static QuarterTurn twin(int seed) {
        QuarterTurn x = new QuarterTurn();
        x.seed(seed);
        x.deal(2);
        x.joint(seed % 6, 12, 30, 4);
        x.joint((seed + 1) % 6, 9, 20, 5);
        x.joint((seed + 2) % 6, 17, 10, 2);
        x.joint((seed + 3) % 6, 10, 5, 2);
        for (int i = 0; i < 6; i++) {
            x.set(i, 3, (i + seed) % 10);
            x.set(i, 4, (i * 3 + seed) % 10);
            x.set(i, 5, (i * 7 + seed) % 10);
        }
        x.rule(1, 10 * (seed % 11));
        x.rule(2, 300 + 97 * seed);
        x.hours(1 + seed % 7);
        return x;
    }

    /** TIGHT of a JOINT becomes another, with nothing else that TURNING does. */
    private static void tighten(QuarterTurn x, int joint, int n) {
        x.sheet(3, 1, 8);
        for (int i = 0; i < 8; i++) x.mark(3, i, i == joint ? x.told(joint, 1) + n : NONE);
        x.pour(3);
    }

    private static QuarterTurn calm() {
        QuarterTurn x = new QuarterTurn();
        x.rule(1, 0);
        return x;
    }

    static void quarter() {
        for (int seed = 0; seed < 12; seed++) {
            for (int j = 0; j < 6; j++) {
                int best = 0, least = Integer.MAX_VALUE;
                for (int n = -9; n <= 9; n++) {
                    QuarterTurn y = twin(seed);
                    tighten(y, j, n);
                    if (y.sink(6) < least) {
                        least = y.sink(6);
                        best = n;
                    }
                }
                d.due("quarter, which", twin(seed).quarter(j, 0), best);
                d.due("quarter, all", twin(seed).quarter(j, 1), least);
            }
        }
    }

    static void quarterEdges() {
        QuarterTurn x = calm();
        x.joint(0, 19, 0, 0);
        x.joint(0, 20, 0, 0);
        x.joint(0, 0, 0, 0);
        x.joint(0, 1, 0, 0);
        d.due("nine less", x.quarter(0, 0), -9);
        d.due("all", x.quarter(0, 1), 0 + 10 + 10 + 9);
        d.due("nine less, not ten", x.quarter(1, 0), -9);
        d.due("all", x.quarter(1, 1), 9 + 1 + 10 + 9);
        d.due("nine more", x.quarter(2, 0), 9);
        d.due("all", x.quarter(2, 1), 9 + 10 + 1 + 9);
        d.due("nine more", x.quarter(3, 0), 9);
        Tapes.tell(x, "leak 50 - g");
        x.joint(0, 38, 0, 0);
        d.due("held at 40: the least of several", x.quarter(4, 0), 2);
        Tapes.tell(x, "leak g");
        d.due("held at 0: the least of several", x.quarter(3, 0), -9);
        d.due("no bad number", x.quarter(0, 2), BAD);
        d.due("no bad number", x.quarter(0, -1), BAD);
        d.due("no joint", x.quarter(5, 0), BAD);
        // what BEARS little does not crack in thought
        QuarterTurn y = calm();
        y.joint(0, 36, 40, 0);
        Tapes.tell(y, "leak 40 - g");
        d.due("tighter", y.quarter(0, 0), 4);
        d.due("none leaks", y.quarter(0, 1), 0);
        d.due("z", y.count(7), 1);
    }

    static void behind() {
        for (int seed = 0; seed < 12; seed++) {
            for (int n : new int[] {1, 2, 7, 23, 100}) {
                QuarterTurn x = twin(seed), y = twin(seed);
                y.hours(n);
                int[] due = {y.sink(0), y.sink(2), y.sink(1)};
                for (int what = 0; what < 3; what++) d.due("behind", x.behind(n, what), due[what]);
                for (int k = 0; k < 6; k++) d.due("behind, leaks", x.behind(n, 3 + k), y.told(k, 9));
                d.due("behind, no joint", x.behind(n, 9), BAD);
            }
            QuarterTurn x = twin(seed);
            d.due("behind none", x.behind(0, 0), x.sink(0));
            d.due("behind none", x.behind(0, 1), x.sink(2));
            d.due("behind none", x.behind(0, 2), x.sink(1));
            d.due("behind none", x.behind(0, 5), x.told(2, 9));
        }
        QuarterTurn x = twin(1);
        for (int n : new int[] {-1, 101, Integer.MAX_VALUE}) d.due("behind, bad", x.behind(n, 0), BAD);
        for (int w : new int[] {-1, Integer.MIN_VALUE, Integer.MAX_VALUE}) d.due("behind, bad", x.behind(1, w), BAD);
        d.due("behind, no joints", new QuarterTurn().behind(5, 2), 0);
        d.due("behind, no joints", new QuarterTurn().behind(5, 3), BAD);
        QuarterTurn c = calm();
        c.rule(2, 100);
        c.joint(5, 0, 0, 0);
        c.joint(0, 12, 0, 0);
        int[] due = {60 * 3 + 2 + 1, 83, 100, 60, 0};
        for (int what = 0; what < 5; what++) d.due("by hand", c.behind(3, what), due[what]);
    }

    static void full() {
        QuarterTurn x = calm();
        x.joint(5, 0, 0, 0);
        x.rule(2, 60 * 5);
        d.due("just full", x.full(), 5);
        x.rule(2, 60 * 5 + 1);
        d.due("one more hour", x.full(), 6);
        x.rule(2, 0);
        d.due("full now", x.full(), 0);
        x.rule(2, 60);
        x.hours(1);
        d.due("full now", x.full(), 0);
        x.rule(2, 50);
        d.due("more than full", x.full(), 0);
        // behind 200 hours at most: eight JOINTS that leak 5 each, cold or hot
        QuarterTurn y = calm();
        Tapes.tell(y, "leak 5");
        for (int i = 0; i < 8; i++) y.joint(0, 10, 0, 0);
        y.rule(2, 8000);
        d.due("by then", y.full(), 200);
        y.rule(2, 8001);
        d.due("not by then", y.full(), NONE);
        y.rule(2, 7960);
        d.due("an hour less", y.full(), 199);
        d.due("no joints", new QuarterTurn().full(), NONE);
        QuarterTurn none = new QuarterTurn();
        none.rule(2, 0);
        d.due("no joints, a pot that takes none", none.full(), 0);
        // beyond THE HOUR's bound thought goes on
        QuarterTurn z = calm();
        for (int i = 0; i < 100; i++) z.hours(100);
        z.joint(5, 0, 0, 0);
        z.rule(2, 120);
        d.due("beyond the bound", z.full(), 2);
        for (int seed = 0; seed < 12; seed++) {
            QuarterTurn twin = twin(seed);
            int hours = 0;
            for (; hours <= 200 && twin.sink(1) < twin.count(3); hours++) twin.hours(1);
            d.due("as a twin", twin(seed).full(), hours > 200 ? NONE : hours);
        }
    }

    static void shut() {
        QuarterTurn x = calm();
        x.joint(0, 10, 0, 0);
        x.joint(0, 13, 0, 0);
        x.joint(0, 14, 0, 0);
        x.joint(5, 10, 0, 0);
        d.due("at once", x.shut(0), 0);
        d.due("behind three", x.shut(1), 3);
        // 14 leaks 4 cold, 2 hot from the seventh hour on: swells twice
        d.due("behind eight", x.shut(2), 6 + 2);
        d.due("never", x.shut(3), NONE);
        for (int joint : WRONG_JOINTS) d.due("no joint", x.shut(joint), BAD);
        shutAtTheBound();
        // a SHAKE that loosens 40 down
        QuarterTurn y = new QuarterTurn();
        y.rule(1, 100);
        y.joint(0, 40, 0, 0);
        Tapes.tell(y, "leak g * 9");
        int hours = 0;
        QuarterTurn z = new QuarterTurn();
        z.rule(1, 100);
        z.joint(0, 40, 0, 0);
        Tapes.tell(z, "leak g * 9");
        for (; z.told(0, 9) != 0; hours++) z.hours(1);
        d.due("shaken loose", y.shut(0), hours);
        for (int seed = 0; seed < 12; seed++) {
            for (int j = 0; j < 6; j++) {
                QuarterTurn twin = twin(seed);
                int h = 0;
                for (; h <= 200 && twin.told(j, 9) != 0; h++) twin.hours(1);
                d.due("as a twin", twin(seed).shut(j), h > 200 ? NONE : h);
            }
        }
    }

    /** z, told so that TIGHT is shaken down to 0 just behind 200 HOURS, and just behind 201. */
    static void shutAtTheBound() {
        boolean[] was = new boolean[2];
        for (int seed = 0; seed < 4000 && !(was[0] && was[1]); seed++) {
            QuarterTurn twin = lateOne(seed);
            int hours = 0;
            for (; hours <= 201 && twin.told(0, 9) != 0; hours++) twin.hours(1);
            if (hours == 200 || hours == 201) {
                d.due("just behind " + hours, lateOne(seed).shut(0), hours == 200 ? 200 : NONE);
                was[hours - 200] = true;
            }
        }
        d.due("both were found", was[0] && was[1] ? 1 : 0, 1);
    }

    private static QuarterTurn lateOne(int seed) {
        QuarterTurn x = new QuarterTurn();
        x.seed(seed);
        x.joint(0, 40, 0, 0);
        Tapes.tell(x, "leak (g > 2) * 9");
        return x;
    }

    static void mend() {
        for (int seed = 0; seed < 12; seed++) {
            for (int j = 0; j < 6; j++) {
                int n = seed == 3 ? 60 : 1 + seed * 2 + j;
                int best = 0, least = Integer.MAX_VALUE;
                for (int way = 0; way < 4; way++) {
                    QuarterTurn y = twin(seed);
                    if (way < 3) y.set(j, 2 + way, 0);
                    else y.set(j, 5, Math.min(9, y.told(j, 5) + 1));
                    y.hours(n);
                    if (y.sink(0) < least) {
                        least = y.sink(0);
                        best = way;
                    }
                }
                d.due("mend, which", twin(seed).mend(j, n, 0), best);
                d.due("mend, drops", twin(seed).mend(j, n, 1), least);
            }
        }
    }

    static void mendByHand() {
        // GRIP 16 leaks 6
        QuarterTurn x = calm();
        x.joint(1, 16, 40, 0);
        x.joint(4, 16, 0, 0);
        x.joint(4, 16, 0, 0);
        x.joint(0, 4, 0, 0);
        x.joint(0, 10, 40, 0);
        x.set(1, 3, 7);
        x.set(1, 4, 6);
        x.set(2, 3, 6);
        x.set(2, 4, 7);
        x.set(3, 5, 1);
        int all = 14 + 19 + 19 + 6 + 0;
        int[] which = {0, 1, 2, 3, 0};
        int[] less = {8, 7, 7, 1, 0};
        for (int j = 0; j < 5; j++) {
            d.due("mend " + j, x.mend(j, 1, 0), which[j]);
            d.due("mend " + j + ", drops", x.mend(j, 1, 1), all - less[j]);
        }
        // TAPE 9 stays 9, so all ways are alike
        x.set(3, 5, 9);
        d.due("nine at most", x.mend(3, 1, 0), 0);
        QuarterTurn r = calm();
        r.joint(0, 1, 30, 0);
        Tapes.tell(r, "leak r * 9");
        d.due("RING 0", r.mend(0, 1, 1), 0);
        d.due("a cracked one: all alike", cracked().mend(0, 60, 0), 0);
        d.due("a cracked one", cracked().mend(0, 60, 1), 3600);
    }

    private static QuarterTurn cracked() {
        QuarterTurn x = calm();
        x.joint(5, 16, 20, 0);
        x.set(0, 4, 6);
        return x;
    }

    static void first() {
        for (int seed = 0; seed < 12; seed++) {
            int n = 1 + seed * 5;
            int best = 0, least = Integer.MAX_VALUE, bestLoose = 0, leastLoose = Integer.MAX_VALUE;
            for (int j = 0; j < 6; j++) {
                QuarterTurn y = twin(seed), z = twin(seed);
                tighten(y, j, 1);
                y.hours(n);
                if (y.sink(0) < least) {
                    least = y.sink(0);
                    best = j;
                }
                z.turn(j, -1);
                z.hours(n);
                if (z.sink(8) < leastLoose) {
                    leastLoose = z.sink(8);
                    bestLoose = j;
                }
            }
            d.due("first, which", twin(seed).first(n, 0), best);
            d.due("first, drops", twin(seed).first(n, 1), least);
            d.due("loose, which", twin(seed).loose(n, 0), bestLoose);
            d.due("loose, tight", twin(seed).loose(n, 1), leastLoose);
        }
    }

    static void firstByHand() {
        QuarterTurn x = calm();
        x.joint(0, 15, 0, 0);
        x.joint(0, 3, 0, 0);
        x.joint(0, 2, 0, 0);
        x.joint(0, 40, 40, 0);
        d.due("the second", x.first(1, 0), 1);
        d.due("drops", x.first(1, 1), 5 + 6 + 8 + 30);
        // 40 at most, and nothing cracks
        QuarterTurn y = calm();
        y.joint(0, 11, 0, 0);
        y.joint(0, 40, 40, 0);
        d.due("40 stays", y.first(1, 0), 1);
        d.due("drops", y.first(1, 1), 31);
        QuarterTurn none = new QuarterTurn();
        d.due("no joints", none.first(1, 0), NONE);
        d.due("no joints", none.first(60, 1), NONE);
        d.due("no joints, bad", none.first(0, 1), BAD);
        d.due("no joints, bad", none.first(1, 2), BAD);
    }

    static void becomes() {
        for (int seed = 0; seed < 12; seed++) {
            for (int j = 0; j < 6; j++) {
                int n = seed == 3 ? 60 : 1 + seed * 3 + j;
                int best = 0, least = Integer.MAX_VALUE;
                for (int kind = 0; kind < 6; kind++) {
                    QuarterTurn y = twin(seed);
                    y.turns(j, kind);
                    y.hours(n);
                    if (y.sink(0) < least) {
                        least = y.sink(0);
                        best = kind;
                    }
                }
                d.due("becomes, which", twin(seed).becomes(j, n, 0), best);
                d.due("becomes, drops", twin(seed).becomes(j, n, 1), least);
            }
        }
        // what leaks 99 and more had best be CRACKED
        QuarterTurn x = calm();
        Tapes.tell(x, "leak 99");
        x.joint(4, 10, 0, 0);
        d.due("cracked", x.becomes(0, 2, 0), 5);
        d.due("drops", x.becomes(0, 2, 1), 120);
        QuarterTurn y = calm();
        y.joint(5, 10, 0, 0);
        d.due("the least of several", y.becomes(0, 1, 0), 0);
        d.due("drops", y.becomes(0, 1, 1), 0);
    }

    static void loose() {
        QuarterTurn x = calm();
        x.joint(0, 0, 0, 0);
        x.joint(0, 5, 0, 0);
        x.joint(0, 5, 0, 0);
        d.due("0 stays", x.loose(1, 0), 1);
        d.due("tight of all", x.loose(1, 1), 9);
        QuarterTurn none = new QuarterTurn();
        d.due("no joints", none.loose(60, 0), NONE);
        d.due("no joints", none.loose(1, 1), NONE);
        d.due("no joints, bad", none.loose(61, 0), BAD);
        d.due("no joints, bad", none.loose(1, -1), BAD);
        // the shaken one, looser already, has no more to lose
        QuarterTurn y = new QuarterTurn();
        y.rule(1, 100);
        y.joint(0, 1, 0, 0);
        y.joint(0, 20, 0, 0);
        d.due("which", y.loose(20, 0), 1);
        QuarterTurn z = new QuarterTurn();
        z.rule(1, 100);
        z.joint(0, 1, 0, 0);
        z.joint(0, 19, 0, 0);
        z.hours(20);
        d.due("tight", y.loose(20, 1), z.sink(8));
    }

    static void whose() {
        for (int seed = 0; seed < 12; seed++) {
            QuarterTurn x = twin(seed);
            int size = seed * 2 + 1;
            x.sheet(2, seed % 2, size);
            int[] want = new int[6];
            for (int k = 0; k < size; k++) {
                int v = (k * 31 + seed * 17) % 60 - 5;
                boolean is = seed % 2 == 0 || k % 3 != 1;
                x.mark(2, k, is ? v : NONE);
                for (int j = 0; j < 6 && is; j++) want[j] += Math.abs(x.behind(k, 3 + j) - v);
            }
            int best = 0;
            for (int j = 1; j < 6; j++) if (want[j] < want[best]) best = j;
            d.due("whose", x.whose(2, 0), best);
            d.due("whose, together", x.whose(2, 1), want[best]);
        }
    }

    static void whoseByHand() {
        QuarterTurn x = calm();
        d.due("missing, no joints", x.whose(0, 1), NOTHING);
        x.sheet(0, 0, 3);
        d.due("no joints", x.whose(0, 0), NONE);
        d.due("no joints", x.whose(0, 1), NONE);
        x.joint(0, 20, 0, 0);
        x.joint(0, 13, 0, 0);
        d.due("3, 2, 1 by 0, 0, 0", x.whose(0, 1), 6);
        d.due("the second", x.whose(0, 0), 1);
        x.mark(0, 0, -32768);
        d.due("signs are left out", x.whose(0, 1), 32768 + 3 + 2 + 1);
        x.sheet(1, 1, 2);
        x.mark(1, 0, NONE);
        x.mark(1, 1, 10);
        d.due("numbers alone", x.whose(1, 0), 0);
        d.due("numbers alone", x.whose(1, 1), 0);
        x.mark(1, 1, NONE);
        d.due("none is a number: all alike", x.whose(1, 0), 0);
        x.sheet(2, 0, 0);
        d.due("no places", x.whose(2, 0), 0);
        d.due("no places", x.whose(2, 1), 0);
        d.due("missing", x.whose(3, 0), NOTHING);
        for (int sheet : new int[] {-1, 4, Integer.MAX_VALUE}) d.due("no sheet", x.whose(sheet, 0), BAD);
        d.due("bad what", x.whose(0, 2), BAD);
        d.due("bad what, missing", x.whose(3, -1), BAD);
    }

    static void fee() {
        QuarterTurn x = calm();
        x.rule(2, 100);
        x.joint(5, 0, 0, 0);
        x.hours(3);
        d.due("fee is DROPS", x.fee(), 180);
        Tapes.tell(x, "fee d * 10 + f");
        d.due("fee", x.fee(), 1880);
        Tapes.tell(x, "fee f");
        d.due("fee is FLOOD", x.fee(), 80);
        Tapes.tell(x, "leak g");
        Tapes.tell(x, "fine t");
        d.due("fee still", x.fee(), 80);
        Tapes.tell(x, "fee 0 - 9 * 9999");
        d.due("fee below 0", x.fee(), -89991);
    }

    static void fine() {
        QuarterTurn x = calm();
        x.joint(0, 12, 0, 0);
        x.joint(0, 30, 0, 0);
        x.hours(1);
        d.due("fine is TIGHT", x.fine(0), 12);
        d.due("fine is TIGHT", x.fine(1), 30);
        Tapes.tell(x, "fine t * 100 + s");
        d.due("fine", x.fine(0), 1201);
        d.due("fine", x.fine(1), 3000);
        Tapes.tell(x, "fine s");
        d.due("fine is SWOLLEN", x.fine(0), 1);
        for (int joint : new int[] {-1, 2, Integer.MAX_VALUE}) d.due("no joint", x.fine(joint), BAD);
        d.due("no joints", new QuarterTurn().fine(0), BAD);
    }

    static void wrong() {
        QuarterTurn x = twin(5);
        for (int n : WRONG_SPANS) {
            d.due("mend", x.mend(0, n, 0), BAD);
            d.due("first", x.first(n, 0), BAD);
            d.due("becomes", x.becomes(0, n, 0), BAD);
            d.due("loose", x.loose(n, 0), BAD);
        }
        for (int joint : WRONG_JOINTS) {
            d.due("mend", x.mend(joint, 1, 0), BAD);
            d.due("becomes", x.becomes(joint, 1, 0), BAD);
            d.due("quarter", x.quarter(joint, 0), BAD);
        }
        for (int what : new int[] {-1, 2, Integer.MAX_VALUE}) {
            d.due("mend", x.mend(0, 1, what), BAD);
            d.due("first", x.first(1, what), BAD);
            d.due("becomes", x.becomes(0, 1, what), BAD);
            d.due("loose", x.loose(1, what), BAD);
            d.due("quarter", x.quarter(0, what), BAD);
        }
    }

    static void nothingChanges() {
        QuarterTurn x = twin(4), y = twin(4);
        x.quarter(1, 0);
        x.behind(50, 0);
        x.full();
        x.shut(2);
        x.mend(0, 30, 0);
        x.first(30, 0);
        x.becomes(3, 30, 0);
        x.loose(30, 0);
        x.sheet(0, 0, 24);
        x.whose(0, 0);
        x.keep();
        x.check(9);
        for (int what = 0; what < 8; what++) d.due("count " + what, x.count(what), y.count(what));
        for (int what = 0; what < 9; what++) d.due("sink " + what, x.sink(what), y.sink(what));
        for (int j = 0; j < 6; j++) {
            for (int what = 0; what < 13; what++) d.due("told " + what, x.told(j, what), y.told(j, what));
        }
    }
}
