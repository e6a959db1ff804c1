/** Promises 12 to 15: hours, sink, seen, from. */
public final class HoursTest {
    private static final int BAD = -1000000001;
    private static final Due d = new Due("HoursTest");

    public static void main(String[] args) {
        hoursBad();
        drops();
        pot();
        swollen();
        shaken();
        shakenEdges();
        hot();
        theHour();
        order();
        sink();
        seenAndFrom();
        d.end();
    }

    private static QuarterTurn calm() {
        QuarterTurn x = new QuarterTurn();
        x.rule(1, 0);
        return x;
    }

    static void hoursBad() {
        QuarterTurn x = new QuarterTurn();
        for (int n : new int[] {0, -1, 101, Integer.MAX_VALUE, Integer.MIN_VALUE}) d.due("hours, bad", x.hours(n), BAD);
        d.due("no hour", x.count(1), 0);
        d.due("no draw", x.count(7), 1);
        d.due("hours without joints", x.hours(100), 0);
        d.due("a hundred", x.count(1), 100);
    }

    static void drops() {
        QuarterTurn x = calm();
        x.joint(0, 20, 0, 0);
        x.joint(5, 0, 0, 0);
        d.due("one hour", x.hours(1), 70);
        d.due("two more", x.hours(2), 140);
        d.due("drops", x.sink(0), 210);
        d.due("in", x.sink(1), 210);
        d.due("flood", x.sink(2), 0);
    }

    static void pot() {
        QuarterTurn x = calm();
        x.rule(2, 100);
        x.joint(5, 0, 0, 0);
        x.joint(5, 0, 0, 0);
        d.due("one hour", x.hours(1), 120);
        d.due("in, no more than the pot", x.sink(1), 100);
        d.due("flood", x.sink(2), 20);
        x.rule(2, 30);
        d.due("a smaller pot", x.sink(1), 100);
        x.hours(1);
        d.due("in stays", x.sink(1), 100);
        d.due("flood by all", x.sink(2), 140);
        x.rule(2, 101);
        x.hours(1);
        d.due("room for one", x.sink(1), 101);
        d.due("flood by the others", x.sink(2), 259);
        x.rule(2, 0);
        x.empty();
        x.hours(1);
        d.due("a pot that takes none", x.sink(1), 0);
        d.due("flood", x.sink(2), 379);
    }

    static void swollen() {
        QuarterTurn x = calm();
        x.joint(0, 10, 0, 0);
        x.joint(0, 11, 0, 0);
        x.joint(0, 13, 0, 0);
        x.joint(0, 14, 0, 0);
        d.due("0 + 1 + 3 + 4", x.hours(1), 8);
        int[] due = {0, 1, 1, 0};
        for (int i = 0; i < 4; i++) d.due("swollen " + i, x.told(i, 7), due[i]);
        d.due("0 + 0 + 2 + 4", x.hours(1), 6);
        d.due("2", x.told(2, 7), 2);
        // up to 9: a leak of SWOLLEN and 2 each time
        QuarterTurn y = calm();
        y.joint(0, 12, 0, 0);
        for (int i = 0; i < 9; i++) {
            d.due("swells", y.told(0, 7), i);
            y.hours(1);
            y.rule(0, 0);
            y.turn(0, 1);
        }
        d.due("nine", y.told(0, 7), 9);
        d.due("leaks", y.told(0, 9), 2);
        y.hours(1);
        d.due("nine at most", y.told(0, 7), 9);
        d.due("leaks", y.told(0, 9), 2);
        // a CRACKED one does not swell
        QuarterTurn z = calm();
        z.joint(5, 10, 0, 0);
        z.hours(3);
        d.due("cracked", z.told(0, 7), 0);
    }

    static void shaken() {
        // z 4: rests by 100 are 57, 32, 30, 48; SHAKE 58: the second draw by 3 is 14575232 % 3 = 2
        QuarterTurn x = new QuarterTurn();
        x.seed(4);
        x.rule(1, 58);
        for (int i = 0; i < 3; i++) x.joint(0, 12, 0, 0);
        x.hours(1);
        d.due("shaken", x.sink(4), 1);
        d.due("which: tight", x.told(14575232 % 3, 1), 11);
        d.due("which: swollen", x.told(14575232 % 3, 7), 0);
        d.due("another: tight", x.told(14575232 % 3 == 0 ? 1 : 0, 1), 12);
        d.due("another: swollen", x.told(14575232 % 3 == 0 ? 1 : 0, 7), 1);
        d.due("tight of all", x.sink(8), 35);
        d.due("two draws", x.count(7), JointsTest.drawn(4, 2));
    }

    static void shakenEdges() {
        // 57 is not below 57: one draw alone
        QuarterTurn x = new QuarterTurn();
        x.seed(4);
        x.rule(1, 57);
        x.joint(0, 12, 0, 0);
        x.hours(1);
        d.due("not shaken", x.sink(4), 0);
        d.due("tight", x.told(0, 1), 12);
        d.due("one draw", x.count(7), JointsTest.drawn(4, 1));
        // SHAKE 100 always shakes; TIGHT 0 at least, and SHAKEN counts all the same
        QuarterTurn y = new QuarterTurn();
        y.rule(1, 100);
        y.joint(0, 2, 0, 0);
        y.hours(5);
        d.due("shaken", y.sink(4), 5);
        d.due("tight", y.told(0, 1), 0);
        d.due("ten draws", y.count(7), JointsTest.drawn(1, 10));
        // without JOINTS one draw an hour
        QuarterTurn z = new QuarterTurn();
        z.rule(1, 100);
        z.hours(3);
        d.due("none shaken", z.sink(4), 0);
        d.due("three draws", z.count(7), JointsTest.drawn(1, 3));
        // SHAKE 0 never does
        QuarterTurn w = calm();
        w.joint(0, 40, 0, 0);
        w.hours(100);
        d.due("none shaken", w.sink(4), 0);
        d.due("tight", w.told(0, 1), 40);
    }

    static void hot() {
        QuarterTurn x = calm();
        x.joint(0, 10, 0, 0);
        int[] due = {0, 0, 0, 0, 0, 1, 1, 1, 1, 1, 1, 0, 0};
        for (int i = 0; i < due.length; i++) {
            x.hours(1);
            d.due("hot behind hour " + i, x.sink(5), due[i]);
        }
        QuarterTurn y = calm();
        y.rule(0, 1);
        y.hours(6);
        d.due("hot becomes cold", y.sink(5), 0);
        // hot from the seventh hour on: GRIP 8 leaks 2, then it swells
        QuarterTurn z = calm();
        z.joint(0, 10, 0, 0);
        d.due("six cold hours", z.hours(6), 0);
        d.due("the first hot one", z.hours(1), 2);
        d.due("the next", z.hours(1), 1);
        d.due("the third", z.hours(1), 0);
    }

    static void theHour() {
        QuarterTurn x = calm();
        x.joint(0, 20, 0, 0);
        x.joint(5, 20, 0, 0);
        for (int i = 0; i < 99; i++) x.hours(100);
        d.due("the hour", x.count(1), 9900);
        x.hours(98);
        d.due("the hour", x.count(1), 9998);
        int z = x.count(7);
        d.due("hot", x.sink(5), (9998 / 6) % 2);
        d.due("behind the bound", x.behind(3, 0) - x.sink(0), 3 * 70);
        int all = x.hours(100);
        d.due("one hour alone", all, 70);
        d.due("the hour", x.count(1), 9999);
        d.due("one draw", x.count(7), JointsTest.drawn(z, 1));
        d.due("no more hours", x.hours(1), 0);
        d.due("the hour", x.count(1), 9999);
        d.due("no draw", x.count(7), JointsTest.drawn(z, 1));
        d.due("bad though", x.hours(0), BAD);
        d.due("thought goes on", x.behind(2, 0) - x.sink(0), 140);
    }

    static void order() {
        // the shaken one has swollen ahead of it, and HOT turns behind all that
        QuarterTurn x = new QuarterTurn();
        x.rule(1, 100);
        x.joint(0, 13, 0, 0);
        d.due("drops", x.hours(1), 3);
        d.due("swollen is undone", x.told(0, 7), 0);
        d.due("tight", x.told(0, 1), 12);
        QuarterTurn y = calm();
        y.joint(0, 10, 0, 0);
        d.due("hot comes last", y.hours(6), 0);
        d.due("and then tells", y.told(0, 9), 2);
    }

    static void sink() {
        QuarterTurn x = calm();
        x.rule(2, 130);
        x.joint(5, 7, 0, 0);
        x.joint(0, 30, 0, 0);
        x.joint(0, 40, 40, 0);
        x.seed(8);
        x.turn(2, 1);
        x.rule(1, 100);
        x.hours(2);
        int[] due = {280, 130, 150, 1, 2, 0, 0, 5, 0};
        for (int what : new int[] {0, 1, 2, 3, 4, 5, 7}) d.due("sink(" + what + ")", x.sink(what), due[what]);
        d.due("all leak", x.sink(6), x.told(0, 9) + x.told(1, 9) + x.told(2, 9));
        d.due("tight of all", x.sink(8), 7 + 30 + 40 - 2);
        for (int what : new int[] {-1, 9, Integer.MAX_VALUE, Integer.MIN_VALUE}) d.due("sink, bad", x.sink(what), BAD);
        x.turns(0, 0);
        x.turns(1, 5);
        d.due("as a set", x.sink(7), 6);
        d.due("cracks stay", x.sink(3), 1);
        QuarterTurn y = new QuarterTurn();
        for (int i = 0; i < 8; i++) y.joint(5, 40, 0, 0);
        d.due("all of them", y.sink(7), 255);
        d.due("all leak", y.sink(6), 480);
        d.due("all tight", y.sink(8), 320);
    }

    static void seenAndFrom() {
        int[] highs = {5, 5, 4, 6, 4, 9, 8, 8};
        int[] hang = {0, 2, 2, 2, 4, 4, 6, 7};
        QuarterTurn x = new QuarterTurn();
        int[] leaks = new int[8];
        int[] sets = new int[8];
        for (int i = 0; i < 8; i++) {
            x.joint(i % 6, 10 + (1 + i) * 3, 3 * i, highs[i]);
            leaks[hang[i]] += x.told(i, 9);
            sets[hang[i]] |= 1 << i;
        }
        for (int i = 0; i < 8; i++) {
            d.due("seen(" + i + ")", x.seen(i), leaks[i]);
            d.due("from(" + i + ")", x.from(i), sets[i]);
        }
        d.due("from 2", x.from(2), 2 + 4 + 8);
        d.due("from 1", x.from(1), 0);
        for (int joint : new int[] {-1, 8, Integer.MAX_VALUE}) {
            d.due("seen, bad", x.seen(joint), BAD);
            d.due("from, bad", x.from(joint), BAD);
        }
        QuarterTurn y = new QuarterTurn();
        d.due("seen, none", y.seen(0), BAD);
        d.due("from, none", y.from(0), BAD);
        y.joint(5, 0, 0, 9);
        d.due("seen, one", y.seen(0), 60);
        d.due("from, one", y.from(0), 1);
        y.joint(5, 0, 0, 9);
        d.due("alike is not lower", y.from(0), 1);
        y.set(1, 6, 8);
        d.due("lower", y.from(1), 3);
        d.due("all of it", y.seen(1), 120);
        d.due("none there", y.seen(0), 0);
        d.due("not that one", y.seen(2), BAD);
    }
}
