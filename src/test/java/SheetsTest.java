/** Promises 32 to 40: sheet, mark, pour, reads, copy, lay, ask, item, rest. */
public final class SheetsTest {
    private static final int BAD = -1000000001, NO = -1000000002, NONE = -1000000005;
    private static final int NOTHING = -1000000011, KIND = -1000000012, INDEX = -1000000013, SIZE = -1000000014;
    private static final int MAX = Integer.MAX_VALUE, MIN = Integer.MIN_VALUE;
    private static final Due d = new Due("SheetsTest");

    public static void main(String[] args) {
        sheet();
        sheetAnew();
        mark();
        markWrong();
        pour();
        pourHeld();
        reads();
        copy();
        copyWithin();
        copyWrong();
        lay();
        layKeeps();
        ask();
        item();
        rest();
        d.end();
    }

    /** A place of a SHEET, looked at by a SLOT. */
    private static int place(QuarterTurn x, int sheet, int place) {
        x.lay(4, 2, sheet);
        return x.item(4, place);
    }

    private static void row(QuarterTurn x, int sheet, int sort, int... places) {
        x.sheet(sheet, sort, places.length);
        for (int i = 0; i < places.length; i++) x.mark(sheet, i, places[i]);
    }

    private static void is(QuarterTurn x, int sheet, int... places) {
        for (int i = 0; i < places.length; i++) d.due("place " + i, place(x, sheet, i), places[i]);
        d.due("no more places", place(x, sheet, places.length), INDEX);
    }

    private static QuarterTurn calm() {
        QuarterTurn x = new QuarterTurn();
        x.rule(1, 0);
        return x;
    }

    static void sheet() {
        QuarterTurn x = new QuarterTurn();
        for (int s = 0; s < 4; s++) {
            d.due("missing", x.mark(s, 0, 0), NOTHING);
            d.due("shorts", x.sheet(s, 0, 24), 24);
            d.due("the last place", x.mark(s, 23, 5), 1);
            d.due("no such place", x.mark(s, 24, 5), INDEX);
            d.due("floats", x.sheet(s, 1, 3), 3);
            d.due("no such place", x.mark(s, 3, 5), INDEX);
            d.due("no places", x.sheet(s, 0, 0), 0);
            d.due("no such place", x.mark(s, 0, 5), INDEX);
            d.due("missing", x.sheet(s, -1, 7), 0);
            d.due("missing", x.mark(s, 0, 0), NOTHING);
        }
        d.due("missing, n any", x.sheet(0, -1, MAX), 0);
        d.due("missing, n any", x.sheet(0, -1, MIN), 0);
        for (int s : new int[] {-1, 4, MAX, MIN}) {
            d.due("no sheet", x.sheet(s, 0, 1), BAD);
            d.due("no sheet stands first", x.sheet(s, 0, -1), BAD);
            d.due("no sheet, missing", x.sheet(s, -1, 1), BAD);
        }
        for (int sort : new int[] {-2, 2, MAX, MIN}) {
            d.due("no sort", x.sheet(0, sort, 1), BAD);
            d.due("no sort stands first", x.sheet(0, sort, -1), BAD);
        }
        for (int sort = 0; sort < 2; sort++) {
            d.due("too many", x.sheet(0, sort, 25), BAD);
            d.due("too many", x.sheet(0, sort, MAX), BAD);
            d.due("below 0", x.sheet(0, sort, -1), SIZE);
            d.due("below 0", x.sheet(0, sort, MIN), SIZE);
        }
        d.due("still missing", x.mark(0, 0, 0), NOTHING);
    }

    static void sheetAnew() {
        QuarterTurn x = new QuarterTurn();
        row(x, 1, 0, 7, 8, 9);
        d.due("too many", x.sheet(1, 1, 25), BAD);
        d.due("below 0", x.sheet(1, 1, -1), SIZE);
        is(x, 1, 7, 8, 9);
        x.sheet(1, 0, 2);
        is(x, 1, 0, 0);
        row(x, 1, 1, NONE, 5);
        x.sheet(1, 1, 3);
        is(x, 1, 0, 0, 0);
        x.mark(1, 2, 6);
        x.sheet(1, -1, 0);
        x.sheet(1, 0, 3);
        is(x, 1, 0, 0, 0);
    }

    static void mark() {
        QuarterTurn x = new QuarterTurn();
        x.sheet(0, 0, 8);
        int[] told = {32767, 32768, -32768, -32769, 65535, 65536, MAX, MIN};
        int[] due = {32767, -32768, -32768, 32767, -1, 0, -1, 0};
        for (int i = 0; i < 8; i++) d.due("mark", x.mark(0, i, told[i]), 1);
        is(x, 0, due);
        x.sheet(1, 1, 5);
        int[] floats = {99999, -99999, 32768, 0, NONE};
        for (int i = 0; i < 5; i++) d.due("mark", x.mark(1, i, floats[i]), 1);
        is(x, 1, 99999, -99999, 32768, 0, KIND);
        d.due("a number again", x.mark(1, 4, 3), 1);
        is(x, 1, 99999, -99999, 32768, 0, 3);
    }

    static void markWrong() {
        QuarterTurn x = new QuarterTurn();
        for (int s : new int[] {-1, 4, MAX, MIN}) d.due("no sheet", x.mark(s, 99, NONE), BAD);
        d.due("missing", x.mark(3, 99, NONE), NOTHING);
        x.sheet(0, 0, 2);
        x.sheet(1, 1, 2);
        for (int place : new int[] {-1, 2, MAX, MIN}) {
            d.due("no place", x.mark(0, place, NONE), INDEX);
            d.due("no place", x.mark(1, place, 100000), INDEX);
        }
        d.due("none in shorts", x.mark(0, 0, NONE), KIND);
        for (int v : new int[] {100000, -100000, MAX, MIN, NONE - 1, NONE + 1}) d.due("floats", x.mark(1, 0, v), BAD);
        is(x, 0, 0, 0);
        is(x, 1, 0, 0);
    }

    static void pour() {
        QuarterTurn x = new QuarterTurn();
        for (int i = 0; i < 4; i++) x.joint(0, 10 + i, 40, 0);
        row(x, 0, 1, 10, 30, NONE);
        d.due("one is otherwise", x.pour(0), 1);
        int[] due = {10, 30, 12, 13};
        for (int i = 0; i < 4; i++) d.due("tight", x.told(i, 1), due[i]);
        d.due("nothing cracks", x.sink(7), 0);
        d.due("no draw", x.count(7), 1);
        d.due("none is", x.pour(0), 0);
        row(x, 1, 0, 1, 2, 3, 4, 5, 6);
        d.due("all", x.pour(1), 4);
        for (int i = 0; i < 4; i++) d.due("tight", x.told(i, 1), 1 + i);
        x.sheet(1, 0, 0);
        d.due("no places", x.pour(1), 0);
        d.due("missing", x.pour(2), NOTHING);
        for (int s : new int[] {-1, 4, MAX}) d.due("no sheet", x.pour(s), BAD);
        d.due("no joints", pouredInto(new QuarterTurn()), 0);
    }

    private static int pouredInto(QuarterTurn x) {
        x.sheet(0, 0, 4);
        return x.pour(0);
    }

    static void pourHeld() {
        QuarterTurn x = new QuarterTurn();
        x.joint(0, 40, 0, 0);
        x.joint(0, 0, 0, 0);
        x.joint(0, 5, 0, 0);
        x.joint(0, 5, 0, 0);
        row(x, 0, 1, 41, -1, 99999, -99999);
        d.due("two are otherwise", x.pour(0), 2);
        int[] due = {40, 0, 40, 0};
        for (int i = 0; i < 4; i++) d.due("tight", x.told(i, 1), due[i]);
    }

    static void reads() {
        QuarterTurn x = calm();
        for (int s = 0; s < 4; s++) d.due("missing", x.reads(s), NOTHING);
        for (int s : new int[] {-1, 4, MIN}) d.due("no sheet", x.reads(s), BAD);
        x.joint(0, 13, 0, 0);
        x.joint(5, 0, 0, 0);
        row(x, 0, 0, 3, 60);
        d.due("all are", x.reads(0), NONE);
        row(x, 0, 0, 3, 59);
        d.due("the second", x.reads(0), 1);
        row(x, 0, 0, 3, 60, 0);
        d.due("no joint", x.reads(0), 2);
        row(x, 1, 1, NONE, 60, NONE);
        d.due("numbers alone", x.reads(1), NONE);
        row(x, 1, 1, NONE, NONE, NONE, 7);
        d.due("no joint", x.reads(1), 3);
        row(x, 1, 1, NONE, 61, 7);
        d.due("the first", x.reads(1), 1);
        x.sheet(0, 0, 0);
        d.due("no places", x.reads(0), NONE);
        row(x, 0, 0, 3);
        x.hours(1);
        d.due("it has swollen", x.reads(0), 0);
    }

    static void copy() {
        QuarterTurn x = new QuarterTurn();
        row(x, 0, 0, 1, 2, 3, 4, 5);
        row(x, 1, 0, 11, 12, 13);
        d.due("copy", x.copy(0, 3, 1, 1, 2), 2);
        is(x, 1, 11, 4, 5);
        is(x, 0, 1, 2, 3, 4, 5);
        d.due("copy all", x.copy(1, 0, 0, 0, 3), 3);
        is(x, 0, 11, 4, 5, 4, 5);
        d.due("copy none", x.copy(1, 3, 0, 5, 0), 0);
        is(x, 0, 11, 4, 5, 4, 5);
        row(x, 2, 1, NONE, 70000);
        row(x, 3, 1, 1, 2);
        d.due("copy floats", x.copy(2, 0, 3, 0, 2), 2);
        is(x, 3, KIND, 70000);
    }

    static void copyWithin() {
        QuarterTurn x = new QuarterTurn();
        row(x, 0, 0, 1, 2, 3, 4, 5);
        d.due("up", x.copy(0, 0, 0, 1, 4), 4);
        is(x, 0, 1, 1, 2, 3, 4);
        row(x, 0, 0, 1, 2, 3, 4, 5);
        d.due("down", x.copy(0, 2, 0, 0, 3), 3);
        is(x, 0, 3, 4, 5, 4, 5);
        d.due("upon itself", x.copy(0, 0, 0, 0, 5), 5);
        is(x, 0, 3, 4, 5, 4, 5);
    }

    static void copyWrong() {
        QuarterTurn x = new QuarterTurn();
        x.sheet(0, 0, 3);
        x.sheet(1, 1, 3);
        row(x, 2, 0, 7, 8);
        for (int s : new int[] {-1, 4, MAX, MIN}) {
            d.due("no sheet", x.copy(s, 0, 3, 9, 9), BAD);
            d.due("no sheet", x.copy(3, 0, s, 9, 9), BAD);
        }
        d.due("missing", x.copy(3, 9, 0, 0, 9), NOTHING);
        d.due("missing", x.copy(0, 0, 3, 9, 9), NOTHING);
        d.due("missing", x.copy(3, 0, 3, 0, 0), NOTHING);
        d.due("sorts", x.copy(0, 9, 1, 9, 9), KIND);
        d.due("sorts", x.copy(1, 0, 0, 0, 0), KIND);
        int[][] wrong = {{-1, 0, 1}, {0, -1, 1}, {2, 0, 2}, {0, 1, 2}, {0, 0, 3}, {3, 0, 1}, {0, 2, 1}, {MAX, 0, 1},
            {0, MAX, 1}, {0, 0, MAX}, {1, 1, MAX}, {MAX, MAX, MAX}, {MIN, 0, 1}, {0, MIN, 1}, {4, 0, 0}, {0, 3, 0},
            {0, 0, -1}, {0, 0, MIN}, {1, 1, -1}};
        for (int[] w : wrong) d.due("no place", x.copy(0, w[0], 2, w[1], w[2]), INDEX);
        is(x, 2, 7, 8);
    }

    static void lay() {
        QuarterTurn x = new QuarterTurn();
        x.joint(1, 7, 0, 0);
        x.sheet(2, 0, 1);
        int[] things = {1, 2, 3, 0, 3, 3, 2, 1, 0};
        int[] k = {0, 2, 9, MIN, MAX, MIN, 2, 0, MAX};
        for (int slot = 0; slot < 5; slot++) {
            int was = 0;
            for (int i = 0; i < things.length; i++) {
                d.due("lay", x.lay(slot, things[i], k[i]), was);
                was = things[i];
            }
            x.lay(slot, 3, 5);
        }
        for (int slot : new int[] {-1, 5, MAX, MIN}) d.due("no slot", x.lay(slot, 2, 3), BAD);
        for (int thing : new int[] {-1, 4, MAX, MIN}) d.due("no thing", x.lay(0, thing, 0), BAD);
        for (int joint : new int[] {-1, 1, 8, MAX, MIN}) d.due("no joint", x.lay(0, 1, joint), BAD);
        for (int sheet : new int[] {-1, 4, MAX, MIN}) d.due("no sheet", x.lay(0, 2, sheet), BAD);
        for (int sheet : new int[] {0, 1, 3}) d.due("missing", x.lay(0, 2, sheet), NOTHING);
        d.due("it holds what it held", x.lay(0, 0, 0), 3);
    }

    static void layKeeps() {
        QuarterTurn x = calm();
        x.joint(2, 7, 3, 0);
        row(x, 0, 1, 5, NONE);
        x.lay(0, 1, 0);
        x.lay(1, 2, 0);
        x.turn(0, 9);
        x.turns(0, 5);
        row(x, 0, 0, 1, 2, 3);
        d.due("its kind then", x.ask(0, 2), 33);
        d.due("not its kind now", x.ask(0, 5), KIND);
        d.due("its place then", x.item(1, 0), 5);
        d.due("its place then", x.item(1, 1), KIND);
        d.due("its places then", x.item(1, 2), INDEX);
        x.sheet(0, -1, 0);
        d.due("its place then", x.item(1, 0), 5);
        x.lay(2, 1, 0);
        d.due("another slot", x.ask(2, 5), 1);
        d.due("the first slot", x.ask(0, 0), 33);
        x.keep();
        x.lay(0, 3, 17);
        x.back();
        d.due("slots are no part of an image", x.rest(0, 10), 7);
    }

    static void ask() {
        int[] worth = {12, 15, 28, 30, 22, 1};
        boolean[][] is = {{true, false, false, false, false, false}, {true, true, false, false, false, false},
            {true, false, true, false, false, false}, {true, true, false, true, false, false},
            {true, false, true, false, true, false}, {true, false, false, false, false, true}};
        QuarterTurn x = new QuarterTurn();
        for (int i = 0; i < 6; i++) {
            x.joint(i, 12, 0, 0);
            x.lay(3, 1, i);
            for (int k = 0; k < 6; k++) d.due("ask " + i + " as " + k, x.ask(3, k), is[i][k] ? worth[i] : KIND);
        }
        d.due("nothing", x.ask(0, 0), NOTHING);
        d.due("a number", askNumber(x), KIND);
        for (int slot : new int[] {-1, 5, MAX, MIN}) d.due("no slot", x.ask(slot, 0), BAD);
        for (int kind : new int[] {-1, 6, MAX, MIN}) {
            d.due("no kind", x.ask(3, kind), BAD);
            d.due("no kind, nothing", x.ask(0, kind), BAD);
        }
        x.sheet(0, 0, 1);
        x.lay(1, 2, 0);
        d.due("a sheet", x.ask(1, 0), KIND);
    }

    private static int askNumber(QuarterTurn x) {
        x.lay(2, 3, 0);
        return x.ask(2, 0);
    }

    static void item() {
        QuarterTurn x = new QuarterTurn();
        row(x, 1, 1, 4, NONE, -6);
        x.joint(0, 0, 0, 0);
        x.lay(0, 2, 1);
        x.lay(1, 1, 0);
        x.lay(2, 3, 5);
        d.due("item", x.item(0, 0), 4);
        d.due("no number", x.item(0, 1), KIND);
        d.due("item", x.item(0, 2), -6);
        for (int place : new int[] {-1, 3, MAX, MIN}) d.due("no place", x.item(0, place), INDEX);
        d.due("a joint", x.item(1, 99), KIND);
        d.due("a number", x.item(2, 99), KIND);
        d.due("nothing", x.item(3, 99), NOTHING);
        for (int slot : new int[] {-1, 5, MAX, MIN}) d.due("no slot", x.item(slot, 99), BAD);
    }

    static void rest() {
        QuarterTurn x = new QuarterTurn();
        int[][] all = {{7, 3, 1}, {-7, 3, -1}, {7, -3, 1}, {-7, -3, -1}, {0, 5, 0}, {MIN, -1, 0}, {MAX, MIN, MAX},
            {MIN, MIN, 0}, {MIN, MAX, -1}, {5, 1, 0}};
        for (int[] a : all) {
            x.lay(2, 3, a[0]);
            d.due(a[0] + " by " + a[1], x.rest(2, a[1]), a[2]);
        }
        d.due("by 0", x.rest(2, 0), NO);
        x.joint(0, 0, 0, 0);
        x.sheet(0, 0, 1);
        x.lay(0, 1, 0);
        x.lay(1, 2, 0);
        d.due("a joint", x.rest(0, 0), KIND);
        d.due("a sheet", x.rest(1, 0), KIND);
        d.due("nothing", x.rest(3, 0), NOTHING);
        for (int slot : new int[] {-1, 5, MAX, MIN}) d.due("no slot", x.rest(slot, 0), BAD);
    }
}
