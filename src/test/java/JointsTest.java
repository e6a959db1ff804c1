/** Promises 1 to 11: a new object, joint, told, as, turns, set, turn, rule, empty, deal, seed. */
public final class JointsTest {
    private static final int BAD = -1000000001, FULL = -1000000003, NONE = -1000000005, NO = -1000000002;
    private static final int NOTHING = -1000000011, KIND = -1000000012;
    private static final Due d = new Due("JointsTest");

    public static void main(String[] args) {
        constants();
        newObject();
        joint();
        told();
        grip();
        leaks();
        bears();
        hangs();
        worth();
        as();
        turns();
        set();
        turn();
        turnCracks();
        rule();
        empty();
        deal();
        seed();
        d.end();
    }

    static void constants() {
        d.due("BAD", QuarterTurn.BAD, -1000000001);
        d.due("NO", QuarterTurn.NO, -1000000002);
        d.due("FULL", QuarterTurn.FULL, -1000000003);
        d.due("NONE", QuarterTurn.NONE, -1000000005);
        d.due("NOTHING", QuarterTurn.NOTHING, -1000000011);
        d.due("KIND", QuarterTurn.KIND, -1000000012);
        d.due("INDEX", QuarterTurn.INDEX, -1000000013);
        d.due("SIZE", QuarterTurn.SIZE, -1000000014);
    }

    static void newObject() {
        int[] counts = {0, 0, 20, 2000, 0, 0, 0, 1};
        for (int i = 0; i < counts.length; i++) d.due("new: count(" + i + ")", new QuarterTurn().count(i), counts[i]);
        for (int i = 0; i <= 8; i++) d.due("new: sink(" + i + ")", new QuarterTurn().sink(i), 0);
        QuarterTurn x = new QuarterTurn();
        d.due("new: told(0, 0)", x.told(0, 0), BAD);
        d.due("new: fee()", x.fee(), 0);
        d.due("new: back()", x.back(), NO);
        d.due("new: empty()", x.empty(), 0);
        for (int i = 0; i < 3; i++) d.due("new: why", x.why(i), NONE);
        for (int i = 0; i < 4; i++) d.due("new: reads", x.reads(i), NOTHING);
        for (int i = 0; i < 5; i++) d.due("new: rest", x.rest(i, 1), NOTHING);
        d.due("new: the hour", new QuarterTurn().behind(0, 2), 0);
    }

    static void joint() {
        QuarterTurn x = new QuarterTurn();
        int[][] wrong = {{-1, 0, 0, 0}, {6, 0, 0, 0}, {0, -1, 0, 0}, {0, 41, 0, 0}, {0, 0, -1, 0}, {0, 0, 41, 0},
            {0, 0, 0, -1}, {0, 0, 0, 10}, {Integer.MAX_VALUE, 0, 0, 0}, {0, Integer.MIN_VALUE, 0, 0}};
        for (int[] w : wrong) d.due("joint, wrong", x.joint(w[0], w[1], w[2], w[3]), BAD);
        d.due("none came", x.count(0), 0);
        for (int i = 0; i < 8; i++) {
            d.due("joint " + i, x.joint(i % 6, 40 - i, 40 - 2 * i, i), i);
            d.due("how many", x.count(0), i + 1);
            int[] all = {i % 6, 40 - i, 40 - 2 * i, 0, 0, 0, i, 0};
            for (int what = 0; what < 8; what++) d.due("told " + what, x.told(i, what), all[what]);
        }
        d.due("a ninth", x.joint(0, 0, 0, 0), FULL);
        d.due("a ninth that is wrong", x.joint(0, 0, 0, 10), BAD);
        d.due("how many", x.count(0), 8);
        d.due("the last", x.told(7, 1), 33);
    }

    static void told() {
        QuarterTurn x = new QuarterTurn();
        x.joint(1, 11, 22, 3);
        for (int i = 2; i <= 6; i++) x.set(0, i, i + 1);
        int[] all = {1, 11, 3, 4, 5, 6, 7, 0, 14, 4, 20, 0, 14};
        for (int what = 0; what < all.length; what++) d.due("told(0, " + what + ")", x.told(0, what), all[what]);
        for (int what : new int[] {-1, 13, Integer.MIN_VALUE, Integer.MAX_VALUE}) d.due("told", x.told(0, what), BAD);
        for (int joint : new int[] {-1, 1, 8, Integer.MIN_VALUE, Integer.MAX_VALUE}) {
            for (int what = 0; what <= 12; what++) d.due("told, no joint", x.told(joint, what), BAD);
        }
        QuarterTurn y = new QuarterTurn();
        y.rule(1, 0);
        y.joint(0, 11, 0, 0);
        y.hours(1);
        d.due("swollen", y.told(0, 7), 1);
        d.due("leaks less", y.told(0, 9), 0);
    }

    static void grip() {
        QuarterTurn x = new QuarterTurn();
        x.joint(0, 0, 0, 0);
        x.joint(0, 1, 0, 0);
        x.joint(0, 2, 0, 0);
        x.joint(0, 40, 0, 0);
        x.set(1, 5, 9);
        x.set(2, 5, 1);
        x.set(3, 5, 2);
        int[] cold = {0, 5, 2, 41};
        int[] hot = {0, 4, 0, 39};
        for (int i = 0; i < 4; i++) d.due("grip, cold", x.told(i, 8), cold[i]);
        x.rule(0, 1);
        for (int i = 0; i < 4; i++) d.due("grip, hot", x.told(i, 8), hot[i]);
    }

    static void leaks() {
        // KINDS with TIGHT 15, RING 19, DIRT 5, SLANT 4, TAPE 3: GRIP 16, plain 6, a fifth of RING 3
        int[] due = {6, 9, 10, 17, 15, 60};
        QuarterTurn x = new QuarterTurn();
        for (int i = 0; i < 6; i++) {
            x.joint(i, 15, 19, 0);
            x.set(i, 3, 5);
            x.set(i, 4, 4);
            x.set(i, 5, 3);
            d.due("leaks, kind " + i, x.told(i, 9), due[i]);
        }
        // PINCHED: a GRIP of 12 or less has nothing above 12
        QuarterTurn y = new QuarterTurn();
        y.joint(3, 12, 4, 0);
        y.joint(3, 13, 5, 0);
        y.joint(3, 3, 0, 0);
        d.due("pinched at 12", y.told(0, 9), 2);
        d.due("pinched at 13", y.told(1, 9), 6);
        d.due("pinched at 3", y.told(2, 9), 7);
        // what leak gives is held before the rest is put to it
        QuarterTurn z = new QuarterTurn();
        z.joint(1, 10, 40, 0);
        z.joint(4, 10, 0, 0);
        z.set(1, 4, 9);
        z.set(1, 3, 8);
        Tapes.tell(z, "leak 9999");
        d.due("held at 99, hard", z.told(0, 9), 107);
        d.due("held at 99, dirty", z.told(1, 9), 116);
        Tapes.tell(z, "leak 0-5");
        d.due("held at 0, hard", z.told(0, 9), 8);
        d.due("held at 0, dirty", z.told(1, 9), 17);
        // SWOLLEN takes away, down to 0; not from a CRACKED one
        QuarterTurn s = new QuarterTurn();
        s.rule(1, 0);
        s.joint(0, 13, 0, 0);
        s.hours(5);
        d.due("swollen", s.told(0, 7), 2 + 1);
        d.due("leaks nothing", s.told(0, 9), 0);
        s.turn(0, -5);
        d.due("leaks nothing yet", s.told(0, 9), 0);
        s.turn(0, -4);
        d.due("leaks again", s.told(0, 9), 3);
        s.turns(0, 5);
        d.due("cracked leaks all", s.told(0, 9), 60);
    }

    static void bears() {
        // RING 13, SLANT 9; then RING 40, SLANT 9
        int[] young = {19, 15, 10, 15, 10, 40};
        int[] old = {5, 1, 0, 1, 0, 40};
        QuarterTurn x = new QuarterTurn();
        for (int i = 0; i < 6; i++) {
            x.joint(i, 0, 13, 0);
            x.set(i, 4, 9);
            d.due("bears, kind " + i, x.told(i, 10), young[i]);
            x.set(i, 2, 40);
            d.due("bears, old, kind " + i, x.told(i, 10), old[i]);
        }
    }

    static void hangs() {
        int[] highs = {5, 5, 4, 6, 4, 9, 8, 8};
        int[] hang = {0, 2, 2, 2, 4, 4, 6, 7};
        QuarterTurn x = new QuarterTurn();
        for (int high : highs) x.joint(0, 0, 0, high);
        for (int i = 0; i < 8; i++) d.due("hangs " + i, x.told(i, 11), hang[i]);
        QuarterTurn y = new QuarterTurn();
        for (int i = 0; i < 8; i++) y.joint(0, 0, 0, 7 - i);
        for (int i = 0; i < 8; i++) d.due("down to the right", y.told(i, 11), 7);
        QuarterTurn z = new QuarterTurn();
        for (int i = 0; i < 8; i++) z.joint(0, 0, 0, i);
        for (int i = 0; i < 8; i++) d.due("down to the left", z.told(i, 11), 0);
        // of two the lower one, though the other's number is less
        QuarterTurn w = new QuarterTurn();
        w.joint(0, 0, 0, 3);
        w.joint(0, 0, 0, 4);
        w.joint(0, 0, 0, 2);
        d.due("the lower of two", w.told(1, 11), 2);
        w.set(0, 6, 1);
        d.due("the other one is lower", w.told(1, 11), 0);
    }

    static void worth() {
        int[] due = {37, 40, 3, 80, -3, 1};
        QuarterTurn x = new QuarterTurn();
        for (int i = 0; i < 6; i++) {
            x.joint(i, 37, 0, 0);
            d.due("worth, kind " + i, x.told(i, 12), due[i]);
        }
        x.rule(0, 1);
        x.set(0, 5, 9);
        d.due("worth is of TIGHT", x.told(0, 12), 37);
    }

    static void as() {
        boolean[][] is = {{true, false, false, false, false, false}, {true, true, false, false, false, false},
            {true, false, true, false, false, false}, {true, true, false, true, false, false},
            {true, false, true, false, true, false}, {true, false, false, false, false, true}};
        QuarterTurn x = new QuarterTurn();
        for (int i = 0; i < 6; i++) {
            x.joint(i, 10 + i, 0, 0);
            for (int k = 0; k < 6; k++) d.due("as(" + i + ", " + k + ")", x.as(i, k), is[i][k] ? 10 + i : KIND);
        }
        d.due("as, no kind", x.as(0, 6), BAD);
        d.due("as, no kind", x.as(0, -1), BAD);
        d.due("as, no joint", x.as(6, 0), BAD);
        d.due("as, no joint", x.as(-1, 0), BAD);
        d.due("as, neither", x.as(-1, 99), BAD);
    }

    static void turns() {
        QuarterTurn x = new QuarterTurn();
        x.joint(0, 9, 8, 7);
        x.set(0, 4, 6);
        for (int k = 1; k < 6; k++) d.due("turns to " + k, x.turns(0, k), k - 1);
        d.due("its kind", x.told(0, 0), 5);
        d.due("tight stays", x.told(0, 1), 9);
        d.due("slant stays", x.told(0, 4), 6);
        d.due("no crack is counted", x.sink(3), 0);
        d.due("it is cracked", x.sink(7), 1);
        d.due("no kind", x.turns(0, 6), BAD);
        d.due("no kind", x.turns(0, -1), BAD);
        d.due("no joint", x.turns(1, 0), BAD);
        d.due("no joint", x.turns(-1, 0), BAD);
        d.due("its kind still", x.turns(0, 0), 5);
        d.due("and back", x.told(0, 0), 0);
    }

    static void set() {
        int[] most = {0, 0, 40, 9, 9, 9, 9};
        QuarterTurn x = new QuarterTurn();
        x.joint(0, 1, 2, 3);
        x.joint(0, 1, 2, 3);
        for (int what = 2; what <= 6; what++) {
            int was = x.told(0, what);
            d.due("set, too much", x.set(0, what, most[what] + 1), BAD);
            d.due("set, too little", x.set(0, what, -1), BAD);
            d.due("set, the least", x.set(0, what, 0), was);
            d.due("set, the most", x.set(0, what, most[what]), 0);
            d.due("told", x.told(0, what), most[what]);
            d.due("set, what it was", x.set(0, what, 1), most[what]);
            d.due("told", x.told(0, what), 1);
            d.due("set, no joint", x.set(2, what, 1), BAD);
            d.due("set, no joint", x.set(-1, what, 1), BAD);
        }
        for (int what : new int[] {-1, 0, 1, 7, 8, 12}) d.due("set, no such thing", x.set(0, what, 0), BAD);
        int[] all = {0, 1, 1, 1, 1, 1, 1, 0};
        int[] other = {0, 1, 2, 0, 0, 0, 3, 0};
        for (int what = 0; what < 8; what++) {
            d.due("told " + what, x.told(0, what), all[what]);
            d.due("the other's " + what, x.told(1, what), other[what]);
        }
    }

    static void turn() {
        QuarterTurn x = new QuarterTurn();
        x.joint(0, 10, 0, 0);
        d.due("tighter", x.turn(0, 9), 19);
        d.due("looser", x.turn(0, -9), 10);
        d.due("by one", x.turn(0, 1), 11);
        d.due("down by one", x.turn(0, -1), 10);
        d.due("nine down", x.turn(0, -9), 1);
        d.due("held at 0", x.turn(0, -9), 0);
        d.due("z is as it was", x.count(7), 1);
        for (int n : new int[] {0, 10, -10, Integer.MAX_VALUE, Integer.MIN_VALUE}) d.due("turn, bad", x.turn(0, n), BAD);
        d.due("turn, no joint", x.turn(1, 1), BAD);
        d.due("turn, no joint", x.turn(-1, 1), BAD);
        d.due("as it was", x.told(0, 1), 0);
        // what it bears just yet needs no draw
        x.joint(0, 20, 0, 0);
        d.due("up to what it bears", x.turn(1, 5), 25);
        d.due("no draw", x.count(7), 1);
        // n below 0 never draws, though it is above
        QuarterTurn y = new QuarterTurn();
        y.joint(0, 40, 40, 0);
        d.due("down", y.turn(0, -3), 37);
        d.due("no draw", y.count(7), 1);
        // a CRACKED one bears 40
        y.joint(5, 39, 0, 0);
        d.due("to 40, not beyond", y.turn(1, 9), 40);
        d.due("no draw", y.count(7), 1);
        d.due("no crack", y.sink(3), 0);
    }

    static void turnCracks() {
        // z 1: rests by 100 are 54, 32, 56, 3; 1 above: 54 stays; 2 above: 32 stays; 3 above: 56; 4 above: 3 cracks
        QuarterTurn x = new QuarterTurn();
        x.joint(0, 25, 0, 0);
        d.due("three more", x.turn(0, 3), 28);
        d.due("none cracked", x.sink(3), 0);
        d.due("its kind", x.told(0, 0), 0);
        d.due("a fourth", x.turn(0, 1), 29);
        d.due("cracked", x.sink(3), 1);
        d.due("its kind", x.told(0, 0), 5);
        d.due("goes on", x.turn(0, 9), 38);
        d.due("cracked but once", x.sink(3), 1);
        // z 3: rests 67, 21, 33: with 2 above 21 stays, with 3 above 33 stays, with 4 above 33 cracks
        QuarterTurn y = new QuarterTurn();
        y.seed(3);
        y.joint(0, 24, 0, 0);
        d.due("five more", y.turn(0, 5), 29);
        d.due("its kind", y.told(0, 0), 5);
        // the turning goes on behind a crack, without draws
        QuarterTurn z = new QuarterTurn();
        z.seed(8);
        z.joint(0, 40, 40, 0);
        d.due("stays 40 and cracks", z.turn(0, 9), 40);
        d.due("its kind", z.told(0, 0), 5);
        int drawn = z.seed(8);
        QuarterTurn one = new QuarterTurn();
        one.seed(8);
        one.joint(0, 40, 40, 0);
        one.turn(0, 1);
        d.due("one draw alone", drawn, one.count(7));
        // rest 54 by 100 with 6 above (60) cracks, with 5 above (50) does not
        QuarterTurn five = new QuarterTurn();
        five.joint(0, 29, 0, 0);
        five.turn(0, 1);
        d.due("5 above", five.told(0, 0), 0);
        QuarterTurn six = new QuarterTurn();
        six.joint(0, 30, 0, 0);
        six.turn(0, 1);
        d.due("6 above", six.told(0, 0), 5);
        // z 10: rest 80: 8 above is not enough (80 is not below 80), 9 above is
        QuarterTurn eight = new QuarterTurn();
        eight.seed(10);
        eight.joint(0, 32, 0, 0);
        eight.turn(0, 1);
        d.due("8 above", eight.told(0, 0), 0);
        QuarterTurn nine = new QuarterTurn();
        nine.seed(10);
        nine.joint(0, 33, 0, 0);
        nine.turn(0, 1);
        d.due("9 above", nine.told(0, 0), 5);
    }

    static void rule() {
        int[] was = {0, 20, 2000};
        int[] most = {1, 100, 9999};
        QuarterTurn x = new QuarterTurn();
        for (int what = 0; what < 3; what++) {
            d.due("rule, too much", x.rule(what, most[what] + 1), BAD);
            d.due("rule, too little", x.rule(what, -1), BAD);
            d.due("rule, the most", x.rule(what, most[what]), was[what]);
            d.due("rule, the least", x.rule(what, 0), most[what]);
            d.due("rule, again", x.rule(what, 1), 0);
        }
        d.due("rule, no such thing", x.rule(3, 0), BAD);
        d.due("rule, no such thing", x.rule(-1, 0), BAD);
        d.due("hot", x.sink(5), 1);
        d.due("shake", x.count(2), 1);
        d.due("pot", x.count(3), 1);
    }

    static void empty() {
        QuarterTurn x = new QuarterTurn();
        x.rule(1, 0);
        x.rule(2, 65);
        x.joint(5, 0, 0, 0);
        x.hours(2);
        d.due("the pot", x.empty(), 65);
        d.due("empty", x.empty(), 0);
        d.due("in", x.sink(1), 0);
        d.due("drops stay", x.sink(0), 120);
        d.due("flood stays", x.sink(2), 55);
        x.hours(1);
        d.due("in again", x.sink(1), 60);
    }

    static void deal() {
        QuarterTurn x = new QuarterTurn();
        for (int n : new int[] {0, -1, 9, Integer.MAX_VALUE}) d.due("deal, bad", x.deal(n), BAD);
        d.due("no draws", x.count(7), 1);
        // z 1 draws 4310654, 9862832, 2589156, 12872603
        d.due("one", x.deal(1), 1);
        d.due("kind", x.told(0, 0), 4310654 % 6);
        d.due("tight", x.told(0, 1), 9862832 % 20);
        d.due("ring", x.told(0, 2), 2589156 % 30);
        d.due("high", x.told(0, 6), 12872603 % 10);
        for (int what : new int[] {3, 4, 5, 7}) d.due("0 at first", x.told(0, what), 0);
        d.due("six more", x.deal(6), 6);
        int z = x.count(7);
        d.due("one has room", x.deal(8), 1);
        d.due("four draws", x.count(7), drawn(z, 4));
        d.due("none has room", x.deal(3), 0);
        d.due("no more draws", x.count(7), drawn(z, 4));
        d.due("all", x.count(0), 8);
        d.due("bad though none has room", x.deal(9), BAD);
        d.due("eight at once", new QuarterTurn().deal(8), 8);
    }

    static int drawn(int z, int draws) {
        int now = z;
        for (int i = 0; i < draws; i++) now = now * 1103515245 + 12345;
        return now;
    }

    static void seed() {
        QuarterTurn x = new QuarterTurn();
        d.due("seed", x.seed(-7), 1);
        d.due("seed", x.seed(Integer.MIN_VALUE), -7);
        d.due("seed", x.seed(0), Integer.MIN_VALUE);
        d.due("z", x.count(7), 0);
        x.hours(1);
        d.due("one draw", x.count(7), 12345);
    }
}
