/** Promises 41 to 45: tell, check, keep, back, count. */
public final class RowsTest {
    private static final int BAD = -1000000001, NO = -1000000002, FULL = -1000000003, NONE = -1000000005;
    private static final Due d = new Due("RowsTest");

    public static void main(String[] args) {
        tell();
        check();
        checkWrong();
        checkRefused();
        checkAtTheBound();
        checkByTheImage();
        keepAndBack();
        backKeepsTheRest();
        textsOfAnImage();
        count();
        d.end();
    }

    private static QuarterTurn piped() {
        QuarterTurn x = new QuarterTurn();
        x.rule(1, 60);
        x.joint(0, 20, 0, 3);
        x.joint(3, 15, 20, 2);
        x.joint(4, 9, 5, 5);
        x.set(2, 4, 3);
        return x;
    }

    /** THE HOURS TOLD of n HOURS, as a twin lives through them. */
    private static int[] hours(QuarterTurn twin, int n) {
        int[] row = new int[2 * n];
        for (int i = 0; i < n; i++) {
            twin.hours(1);
            row[2 * i] = twin.sink(0);
            row[2 * i + 1] = twin.sink(8);
        }
        return row;
    }

    private static int checked(QuarterTurn x, int[] row, int many, int n) {
        for (int i = 0; i < many; i++) x.tell(row[i]);
        int answer = x.check(n);
        d.due("none wait", x.count(5), 0);
        return answer;
    }

    static void tell() {
        QuarterTurn x = new QuarterTurn();
        for (int i = 1; i <= 60; i++) d.due("tell", x.tell(-i), i);
        d.due("a sixty-first", x.tell(1), FULL);
        d.due("still sixty", x.count(5), 60);
        x.check(1);
        d.due("none wait", x.count(5), 0);
        d.due("tell", x.tell(Integer.MIN_VALUE), 1);
    }

    static void check() {
        int[] row = hours(piped(), 30);
        QuarterTurn x = piped();
        d.due("keep", x.keep(), 3);
        for (int n : new int[] {1, 2, 13, 30}) d.due("all right", checked(x, row, 2 * n, n), 0);
        d.due("none told", checked(x, row, 0, 1), 1);
        d.due("one is missing", checked(x, row, 9, 5), 10);
        d.due("all of an hour missing", checked(x, row, 8, 5), 9);
        d.due("one too many", checked(x, row, 11, 5), 11);
        d.due("more too many", checked(x, row, 60, 1), 3);
    }

    static void checkWrong() {
        int[] row = hours(piped(), 30);
        QuarterTurn x = piped();
        x.keep();
        for (int i : new int[] {0, 1, 2, 7, 20, 58, 59}) {
            int[] wrong = row.clone();
            wrong[i]++;
            QuarterTurn y = piped();
            y.keep();
            d.due("wrong at " + i, checked(y, wrong, 60, 30), 1 + i);
        }
        int[] wrong = row.clone();
        wrong[3]--;
        wrong[5]--;
        d.due("the first that is not", checked(x, wrong, 60, 30), 4);
        d.due("wrong ahead of a missing one", checked(x, wrong, 5, 30), 4);
        d.due("wrong ahead of one too many", checked(x, wrong, 9, 3), 4);
    }

    static void checkRefused() {
        QuarterTurn x = piped();
        int[] row = hours(piped(), 2);
        d.due("no image", checked(x, row, 4, 2), NO);
        for (int n : new int[] {0, 31, -1, Integer.MAX_VALUE}) d.due("bad stands first", checked(x, row, 4, n), BAD);
        x.keep();
        for (int n : new int[] {0, 31, -1, Integer.MIN_VALUE}) d.due("bad", checked(x, row, 4, n), BAD);
        d.due("right", checked(x, row, 4, 2), 0);
    }

    static void checkAtTheBound() {
        QuarterTurn x = new QuarterTurn();
        x.joint(0, 30, 0, 0);
        for (int i = 0; i < 99; i++) x.hours(100);
        x.hours(97);
        QuarterTurn y = new QuarterTurn();
        y.joint(0, 30, 0, 0);
        for (int i = 0; i < 99; i++) y.hours(100);
        y.hours(97);
        x.keep();
        int[] row = hours(y, 3);
        d.due("two hours alone", checked(x, row, 4, 30), 0);
        d.due("two hours alone", checked(x, row, 6, 30), 5);
        d.due("one hour", checked(x, row, 2, 1), 0);
        x.hours(2);
        x.keep();
        d.due("no hours", checked(x, row, 0, 30), 0);
        d.due("no hours", checked(x, row, 1, 30), 1);
    }

    static void checkByTheImage() {
        int[] row = hours(piped(), 5);
        QuarterTurn x = piped();
        x.keep();
        x.hours(9);
        x.turn(0, 9);
        x.turns(1, 5);
        x.rule(1, 0);
        x.joint(5, 1, 1, 1);
        Tapes.tell(x, "leak 77");
        x.seed(99);
        d.due("by the image", checked(x, row, 10, 5), 0);
        d.due("what is now stays", x.count(7), 99);
        x.keep();
        d.due("by a new image", checked(x, row, 10, 5), 1);
    }

    static void keepAndBack() {
        QuarterTurn x = new QuarterTurn();
        d.due("no image", x.back(), NO);
        d.due("keep none", x.keep(), 0);
        x.joint(0, 1, 1, 1);
        d.due("back to none", x.back(), 0);
        d.due("none", x.count(0), 0);
        d.due("again", x.back(), 0);
        QuarterTurn y = piped(), same = piped();
        y.rule(0, 1);
        same.rule(0, 1);
        y.rule(2, 75);
        same.rule(2, 75);
        y.hours(8);
        same.hours(8);
        d.due("keep", y.keep(), 3);
        for (int time = 0; time < 2; time++) {
            y.seed(12 + time);
            y.hours(7);
            y.deal(4);
            y.joint(0, 12, 0, 9);
            for (int what = 3; what <= 5; what++) y.set(3, what, 9);
            y.turns(3, 0);
            y.turn(3, -9);
            Tapes.tell(y, "leak 2");
            y.rule(1, 0);
            y.hours(1);
            d.due("it swells", y.told(3, 7), 1);
            y.seed(8);
            for (int i = 0; i < 8; i++) y.turn(0, 9);
            d.due("one cracks", y.sink(3), 1);
            y.turn(0, 9);
            y.turns(1, 2);
            for (int what = 2; what <= 6; what++) y.set(2, what, 9);
            y.rule(0, time);
            y.rule(1, 100);
            y.rule(2, 9000);
            y.hours(3);
            y.empty();
            d.due("back", y.back(), 3);
            for (int what = 0; what < 8; what++) d.due("count " + what, y.count(what), same.count(what));
            for (int what = 0; what < 9; what++) d.due("sink " + what, y.sink(what), same.sink(what));
            for (int j = 0; j < 4; j++) {
                for (int what = 0; what < 13; what++) d.due("told " + what, y.told(j, what), same.told(j, what));
            }
        }
        y.joint(0, 1, 1, 1);
        int[] all = {0, 1, 1, 0, 0, 0, 1, 0};
        for (int what = 0; what < 8; what++) d.due("it is new: told " + what, y.told(3, what), all[what]);
        d.due("kept anew", y.keep(), 4);
        y.deal(2);
        d.due("back to that", y.back(), 4);
    }

    static void backKeepsTheRest() {
        QuarterTurn x = piped();
        x.sheet(0, 0, 2);
        x.lay(0, 3, 5);
        x.keep();
        x.sheet(0, 1, 3);
        x.mark(0, 2, 70000);
        x.sheet(1, 0, 1);
        x.lay(0, 2, 0);
        x.lay(1, 1, 2);
        x.tell(4);
        x.tell(5);
        x.feed(1, 2, 3);
        x.back();
        d.due("the sheet", x.mark(0, 2, NONE), 1);
        d.due("the slot", x.item(0, 2), 70000);
        d.due("the other slot", x.lay(1, 0, 0), 1);
        d.due("the other sheet", x.mark(1, 0, 1), 1);
        d.due("numbers", x.count(5), 2);
        d.due("the tape", x.count(6), 12);
    }

    static void textsOfAnImage() {
        QuarterTurn x = new QuarterTurn();
        x.rule(1, 0);
        x.joint(0, 10, 0, 0);
        Tapes.tell(x, "fee 1");
        Tapes.tell(x, "leak 5");
        x.keep();
        Tapes.tell(x, "fee 2");
        Tapes.tell(x, "leak 6");
        Tapes.tell(x, "fine 3");
        d.due("texts", x.count(4), 5);
        x.back();
        int[] why = {1, 0, NONE};
        for (int key = 0; key < 3; key++) d.due("why " + key, x.why(key), why[key]);
        d.due("texts", x.count(4), 2);
        d.due("gone", x.textTold(2, 0), BAD);
        d.due("fee", x.fee(), 1);
        d.due("leaks", x.told(0, 9), 5);
        d.due("fine", x.fine(0), 10);
        d.due("told anew", Tapes.tell(x, "fine 4"), 2);
        d.due("fine", x.fine(0), 4);
        d.due("the fee of the image", x.fee(), 1);
        int[] row = {5, 10, 10, 10};
        Tapes.tell(x, "leak 50");
        d.due("the leak of the image", checked(x, row, 4, 2), 0);
        x.back();
        d.due("texts", x.count(4), 2);
        d.due("leaks", x.told(0, 9), 5);
    }

    static void count() {
        QuarterTurn x = piped();
        x.hours(4);
        x.rule(2, 123);
        Tapes.tell(x, "fee 1");
        x.tell(0);
        x.feed(0, 0, 0);
        x.seed(-3);
        int[] due = {3, 4, 60, 123, 1, 1, 12, -3};
        for (int what = 0; what < 8; what++) d.due("count(" + what + ")", x.count(what), due[what]);
        for (int what : new int[] {-1, 8, Integer.MAX_VALUE, Integer.MIN_VALUE}) d.due("count, bad", x.count(what), BAD);
    }
}
