import java.util.HashMap;
import java.util.Map;
import java.util.function.Supplier;
import java.util.function.ToIntFunction;

/**
 * "A call that is refused answers one of BAD, NO, FULL, or a FINDING, of several the one that stands first with it,
 * and changes nothing (but the tape and the numbers that wait, where told)." Each promise's refusals in the order in
 * which they stand; behind each the object is compared with a twin that has not been asked.
 */
public final class RefusalsTest {
    private static final int BAD = -1000000001, NO = -1000000002, FULL = -1000000003, NONE = -1000000005;
    private static final int NOTHING = -1000000011, KIND = -1000000012, INDEX = -1000000013, SIZE = -1000000014;
    private static final int MAX = Integer.MAX_VALUE, MIN = Integer.MIN_VALUE;
    private static final int[] NO_JOINT = {-1, 6, 7, 8, 31, 32, MAX, MIN}, NO_KIND = {-1, 6, MAX, MIN};
    private static final int[] NO_SHEET = {-1, 4, MAX, MIN}, NO_SLOT = {-1, 5, MAX, MIN}, NOT_0_OR_1 = {-1, 2, MAX, MIN};
    private static final int[] NO_SPAN = {0, -1, 61, MAX, MIN};
    private static final int JOINT_SLOT = 0, SHEET_SLOT = 1, NUMBER_SLOT = 2, EMPTY_SLOT = 3, FLOATS_SLOT = 4;
    private static final int SHORTS = 0, FLOATS = 1, MISSING = 2, NO_PLACES = 3;

    private static final Supplier<QuarterTurn> NEW = QuarterTurn::new, RICH = Twins::rich, CROWDED = Twins::crowded,
        LATE = Twins::late;
    private static final Map<Supplier<QuarterTurn>, Map<String, Integer>> SEEN = new HashMap<>();
    private static final Due d = new Due("RefusalsTest");

    public static void main(String[] args) {
        twinsAreAlike();
        p2Joint();
        p3Told();
        p4As();
        p5Turns();
        p6Set();
        p7Turn();
        p8Rule();
        p10Deal();
        p12Hours();
        p13To15SinkSeenFrom();
        p16Quarter();
        p17Behind();
        p19Shut();
        p20To23MendFirstBecomesLoose();
        p21And23WithoutJoints();
        p24Whose();
        p26Fine();
        p27And28FeedTrim();
        p29TextFault();
        p29TextFull();
        p30And31TextToldWhy();
        p32Sheet();
        p33Mark();
        p34And35PourReads();
        p36Copy();
        p37Lay();
        p38Ask();
        p39Item();
        p40Rest();
        p41Tell();
        p42CheckBad();
        p42CheckNo();
        p44And45BackCount();
        d.end();
    }

    private static Map<String, Integer> seenOf(Supplier<QuarterTurn> twin) {
        return SEEN.computeIfAbsent(twin, t -> Twins.seen(t.get()));
    }

    private static void refused(String call, Supplier<QuarterTurn> of, ToIntFunction<QuarterTurn> asked, int want) {
        refused(call, of, asked, want, of);
    }

    private static void refused(String call, Supplier<QuarterTurn> of, ToIntFunction<QuarterTurn> asked, int want,
            Supplier<QuarterTurn> then) {
        QuarterTurn x = of.get();
        d.due(call, asked.applyAsInt(x), want);
        d.same(call, Twins.seen(x), seenOf(then));
    }

    /** Twins tell nothing unless they are alike, and what differs is seen. */
    static void twinsAreAlike() {
        d.same("two rich ones", Twins.seen(Twins.rich()), Twins.seen(Twins.rich()));
        d.same("two crowded ones", Twins.seen(Twins.crowded()), Twins.seen(Twins.crowded()));
        QuarterTurn x = Twins.rich();
        int[] due = {6, 12, 70, 900, 3, 4, 8};
        for (int what = 0; what < due.length; what++) d.due("rich: count(" + what + ")", x.count(what), due[what]);
        d.due("rich: the numbers are right", x.check(2), 0);
        d.due("rich: the tape is a TEXT", x.text(), 3);
        QuarterTurn y = Twins.crowded();
        int[] most = {8, 12, 70, 900, 14, 60, 96};
        for (int what = 0; what < most.length; what++) d.due("crowded: count(" + what + ")", y.count(what), most[what]);
        d.due("late: THE HOUR", Twins.late().count(1), 9999);
    }

    /** BAD; FULL. */
    static void p2Joint() {
        int[][] wrong = {{-1, 1, 1, 1}, {6, 1, 1, 1}, {1, -1, 1, 1}, {1, 41, 1, 1}, {1, 1, -1, 1}, {1, 1, 41, 1},
            {1, 1, 1, -1}, {1, 1, 1, 10}, {MIN, 1, 1, 1}, {1, MAX, 1, 1}, {1, 1, MIN, 1}, {1, 1, 1, MAX}};
        for (int[] w : wrong) {
            refused("joint, BAD", RICH, x -> x.joint(w[0], w[1], w[2], w[3]), BAD);
            refused("joint, BAD ahead of FULL", CROWDED, x -> x.joint(w[0], w[1], w[2], w[3]), BAD);
        }
        refused("joint, FULL", CROWDED, x -> x.joint(0, 0, 0, 0), FULL);
        refused("joint, FULL", CROWDED, x -> x.joint(5, 40, 40, 9), FULL);
    }

    static void p3Told() {
        for (int j : NO_JOINT) {
            for (int what = 0; what <= 12; what++) {
                int w = what;
                d.due("told, no JOINT", Twins.rich().told(j, w), BAD);
            }
            refused("told, no JOINT", RICH, x -> x.told(j, 11), BAD);
        }
        for (int what : new int[] {-1, 13, MAX, MIN}) refused("told, what " + what, RICH, x -> x.told(0, what), BAD);
        refused("told, no JOINT, no what", RICH, x -> x.told(6, 13), BAD);
        refused("told, there are none", NEW, x -> x.told(0, 0), BAD);
    }

    /** BAD: joint, kind; KIND. */
    static void p4As() {
        for (int j : NO_JOINT) refused("as, no JOINT", RICH, x -> x.as(j, 0), BAD);
        for (int k : NO_KIND) refused("as, no KIND", RICH, x -> x.as(1, k), BAD);
        refused("as, neither", RICH, x -> x.as(-1, 6), BAD);
        refused("as, one of a KIND above", RICH, x -> x.as(0, 1), KIND);
        refused("as, one of a KIND beside", RICH, x -> x.as(1, 2), KIND);
        refused("as, one of a KIND under it", RICH, x -> x.as(1, 3), KIND);
        refused("as, one of a KIND under another", RICH, x -> x.as(2, 3), KIND);
    }

    static void p5Turns() {
        for (int j : NO_JOINT) refused("turns, no JOINT", RICH, x -> x.turns(j, 0), BAD);
        for (int k : NO_KIND) refused("turns, no KIND", RICH, x -> x.turns(1, k), BAD);
    }

    static void p6Set() {
        for (int j : NO_JOINT) refused("set, no JOINT", RICH, x -> x.set(j, 2, 0), BAD);
        for (int what : new int[] {-1, 0, 1, 7, 8, 9, 12, MAX, MIN}) {
            refused("set, what " + what, RICH, x -> x.set(1, what, 0), BAD);
        }
        for (int v : new int[] {-1, 41, MAX, MIN}) refused("set, RING " + v, RICH, x -> x.set(1, 2, v), BAD);
        for (int what = 3; what <= 6; what++) {
            int w = what;
            for (int v : new int[] {-1, 10, MAX, MIN}) refused("set " + w + ", v " + v, RICH, x -> x.set(1, w, v), BAD);
        }
    }

    static void p7Turn() {
        for (int j : NO_JOINT) refused("turn, no JOINT", RICH, x -> x.turn(j, 1), BAD);
        for (int n : new int[] {0, 10, -10, MAX, MIN}) refused("turn, n " + n, RICH, x -> x.turn(1, n), BAD);
    }

    static void p8Rule() {
        int[] most = {1, 100, 9999};
        for (int what = 0; what < 3; what++) {
            int w = what;
            for (int v : new int[] {-1, most[w] + 1, MAX, MIN}) refused("rule " + w, RICH, x -> x.rule(w, v), BAD);
        }
        for (int what : new int[] {-1, 3, MAX, MIN}) refused("rule, what " + what, RICH, x -> x.rule(what, 0), BAD);
    }

    static void p10Deal() {
        for (int n : new int[] {0, -1, 9, MAX, MIN}) {
            refused("deal " + n, RICH, x -> x.deal(n), BAD);
            refused("deal " + n + ", no room", CROWDED, x -> x.deal(n), BAD);
        }
    }

    static void p12Hours() {
        for (int n : new int[] {0, -1, 101, MAX, MIN}) {
            refused("hours " + n, RICH, x -> x.hours(n), BAD);
            refused("hours " + n + ", THE HOUR 9999", LATE, x -> x.hours(n), BAD);
        }
    }

    static void p13To15SinkSeenFrom() {
        for (int what : new int[] {-1, 9, MAX, MIN}) refused("sink " + what, RICH, x -> x.sink(what), BAD);
        for (int j : NO_JOINT) {
            refused("seen, no JOINT", RICH, x -> x.seen(j), BAD);
            refused("from, no JOINT", RICH, x -> x.from(j), BAD);
        }
        refused("seen, there are none", NEW, x -> x.seen(0), BAD);
        refused("from, there are none", NEW, x -> x.from(0), BAD);
    }

    static void p16Quarter() {
        for (int j : NO_JOINT) refused("quarter, no JOINT", RICH, x -> x.quarter(j, 0), BAD);
        for (int what : NOT_0_OR_1) refused("quarter, what", RICH, x -> x.quarter(0, what), BAD);
    }

    static void p17Behind() {
        for (int n : new int[] {-1, 101, MAX, MIN}) refused("behind, n " + n, RICH, x -> x.behind(n, 0), BAD);
        for (int what : new int[] {-1, 9, 10, 11, MAX, MIN}) {
            refused("behind, what " + what, RICH, x -> x.behind(0, what), BAD);
        }
        refused("behind, there are none", NEW, x -> x.behind(0, 3), BAD);
        d.due("behind, the last JOINT of eight", Twins.crowded().behind(0, 10), Twins.crowded().told(7, 9));
        refused("behind, a ninth JOINT", CROWDED, x -> x.behind(0, 11), BAD);
    }

    /** BAD; NONE: not by then. */
    static void p19Shut() {
        for (int j : NO_JOINT) refused("shut, no JOINT", RICH, x -> x.shut(j), BAD);
        refused("shut, there are none", NEW, x -> x.shut(0), BAD);
        refused("shut, not by then", RICH, x -> x.shut(5), NONE);
    }

    static void p20To23MendFirstBecomesLoose() {
        for (int n : NO_SPAN) {
            refused("mend, n " + n, RICH, x -> x.mend(0, n, 0), BAD);
            refused("first, n " + n, RICH, x -> x.first(n, 0), BAD);
            refused("becomes, n " + n, RICH, x -> x.becomes(0, n, 0), BAD);
            refused("loose, n " + n, RICH, x -> x.loose(n, 0), BAD);
        }
        for (int what : NOT_0_OR_1) {
            refused("mend, what " + what, RICH, x -> x.mend(0, 1, what), BAD);
            refused("first, what " + what, RICH, x -> x.first(1, what), BAD);
            refused("becomes, what " + what, RICH, x -> x.becomes(0, 1, what), BAD);
            refused("loose, what " + what, RICH, x -> x.loose(1, what), BAD);
        }
        for (int j : NO_JOINT) {
            refused("mend, no JOINT", RICH, x -> x.mend(j, 1, 0), BAD);
            refused("becomes, no JOINT", RICH, x -> x.becomes(j, 1, 0), BAD);
        }
    }

    /** BAD; NONE: there are no JOINTS. */
    static void p21And23WithoutJoints() {
        for (int what = 0; what < 2; what++) {
            int w = what;
            refused("first, no JOINTS", NEW, x -> x.first(1, w), NONE);
            refused("loose, no JOINTS", NEW, x -> x.loose(1, w), NONE);
            refused("first, no JOINTS", NEW, x -> x.first(60, w), NONE);
            refused("loose, no JOINTS", NEW, x -> x.loose(60, w), NONE);
        }
        for (int n : NO_SPAN) {
            refused("first, BAD ahead of NONE", NEW, x -> x.first(n, 0), BAD);
            refused("loose, BAD ahead of NONE", NEW, x -> x.loose(n, 0), BAD);
        }
        for (int what : NOT_0_OR_1) {
            refused("first, BAD ahead of NONE", NEW, x -> x.first(1, what), BAD);
            refused("loose, BAD ahead of NONE", NEW, x -> x.loose(1, what), BAD);
        }
    }

    /** BAD; NOTHING; NONE: there are no JOINTS. */
    static void p24Whose() {
        for (int s : NO_SHEET) {
            refused("whose, no SHEET", RICH, x -> x.whose(s, 0), BAD);
            refused("whose, no SHEET, no JOINTS", NEW, x -> x.whose(s, 1), BAD);
        }
        for (int what : NOT_0_OR_1) {
            refused("whose, what " + what, RICH, x -> x.whose(SHORTS, what), BAD);
            refused("whose, what, BAD ahead of NOTHING", RICH, x -> x.whose(MISSING, what), BAD);
            refused("whose, what, BAD ahead of NOTHING and NONE", NEW, x -> x.whose(0, what), BAD);
        }
        for (int what = 0; what < 2; what++) {
            int w = what;
            refused("whose, MISSING", RICH, x -> x.whose(MISSING, w), NOTHING);
            refused("whose, NOTHING ahead of NONE", NEW, x -> x.whose(0, w), NOTHING);
            Supplier<QuarterTurn> paged = RefusalsTest::pagedOnly;
            refused("whose, no JOINTS", paged, x -> x.whose(0, w), NONE);
            refused("whose, BAD ahead of NONE", paged, x -> x.whose(0, 2), BAD);
        }
    }

    private static QuarterTurn pagedOnly() {
        QuarterTurn x = new QuarterTurn();
        x.sheet(0, 0, 2);
        return x;
    }

    static void p26Fine() {
        for (int j : NO_JOINT) refused("fine, no JOINT", RICH, x -> x.fine(j), BAD);
        refused("fine, there are none", NEW, x -> x.fine(0), BAD);
    }

    static void p27And28FeedTrim() {
        refused("feed, FULL", CROWDED, x -> x.feed(1, 2, 3), FULL);
        Supplier<QuarterTurn> almost = RefusalsTest::eightyFive;
        refused("feed, one byte too many", almost, x -> x.feed(1, 2, 3), FULL);
        for (int n : new int[] {-1, 97, MAX, MIN}) refused("trim " + n, CROWDED, x -> x.trim(n), BAD);
        for (int n : new int[] {-1, 9, MAX, MIN}) refused("trim " + n + " of 8", RICH, x -> x.trim(n), BAD);
        refused("trim 1 of 0", NEW, x -> x.trim(1), BAD);
        refused("trim 86 of 85", almost, x -> x.trim(86), BAD);
    }

    private static QuarterTurn eightyFive() {
        QuarterTurn x = Twins.withFullTape(Twins.corners());
        x.trim(85);
        return x;
    }

    /** A FAULT uses THE TAPE up, and changes nothing else; it stands ahead of FULL. */
    static void p29TextFault() {
        String[] texts = {"", " ", "fine", "fine t 7", "fine t+", "fee x", "leak g+d", "leak 12345", "fee (d"};
        int[] places = {0, 1, 4, 7, 7, 4, 7, 5, 6};
        for (int i = 0; i < texts.length; i++) {
            String text = texts[i];
            refused("text \"" + text + "\"", () -> Twins.withNumbers(taped(Twins.corners(), text)), x -> x.text(),
                -100 - places[i], () -> Twins.withNumbers(Twins.corners()));
            refused("text \"" + text + "\", FAULT ahead of FULL", () -> taped(Twins.withTexts(Twins.corners()), text),
                x -> x.text(), -100 - places[i], () -> Twins.withTexts(Twins.corners()));
        }
    }

    private static QuarterTurn taped(QuarterTurn x, String text) {
        Tapes.put(x, text);
        return x;
    }

    /** FULL uses THE TAPE up, and changes nothing else. */
    static void p29TextFull() {
        for (String text : new String[] {"leak 5", "fee 5", "fine 5", " fine(t)"}) {
            refused("text \"" + text + "\", FULL", () -> taped(Twins.withTexts(Twins.corners()), text), x -> x.text(), FULL,
                () -> Twins.withTexts(Twins.corners()));
        }
    }

    static void p30And31TextToldWhy() {
        for (int text : new int[] {-1, 3, 4, 13, 14, MAX, MIN}) {
            refused("textTold, no TEXT", RICH, x -> x.textTold(text, 0), BAD);
            refused("textTold, no TEXT", RICH, x -> x.textTold(text, 1), BAD);
        }
        for (int what : NOT_0_OR_1) refused("textTold, what " + what, RICH, x -> x.textTold(0, what), BAD);
        refused("textTold, a fifteenth", CROWDED, x -> x.textTold(14, 0), BAD);
        refused("textTold, there are none", NEW, x -> x.textTold(0, 0), BAD);
        for (int key : new int[] {-1, 3, MAX, MIN}) {
            refused("why " + key, RICH, x -> x.why(key), BAD);
            refused("why " + key + ", BAD ahead of NONE", NEW, x -> x.why(key), BAD);
        }
        for (int key = 0; key < 3; key++) {
            int k = key;
            refused("why, none", NEW, x -> x.why(k), NONE);
        }
        refused("why, none of that KEY", () -> Twins.withTexts(taught()), x -> x.why(0), NONE);
    }

    private static QuarterTurn taught() {
        QuarterTurn x = new QuarterTurn();
        x.joint(0, 5, 5, 5);
        return x;
    }

    /** BAD: sheet, sort, n above 24; SIZE. */
    static void p32Sheet() {
        for (int s : NO_SHEET) {
            refused("sheet, no SHEET", RICH, x -> x.sheet(s, 0, 1), BAD);
            refused("sheet, no SHEET, to be MISSING", RICH, x -> x.sheet(s, -1, 1), BAD);
            refused("sheet, no SHEET, BAD ahead of SIZE", RICH, x -> x.sheet(s, 1, -1), BAD);
        }
        for (int sort : new int[] {-2, 2, MAX, MIN}) {
            refused("sheet, sort " + sort, RICH, x -> x.sheet(0, sort, 1), BAD);
            refused("sheet, sort " + sort + ", BAD ahead of SIZE", RICH, x -> x.sheet(0, sort, -1), BAD);
        }
        for (int s = 0; s < 4; s++) {
            int sheet = s;
            for (int sort = 0; sort < 2; sort++) {
                int to = sort;
                for (int n : new int[] {25, MAX}) refused("sheet, n " + n, RICH, x -> x.sheet(sheet, to, n), BAD);
                for (int n : new int[] {-1, MIN}) refused("sheet, n " + n, RICH, x -> x.sheet(sheet, to, n), SIZE);
            }
        }
    }

    /** BAD: sheet; NOTHING; INDEX; KIND: NONE in a row of shorts; BAD: v of floats. */
    static void p33Mark() {
        for (int s : NO_SHEET) {
            refused("mark, no SHEET", RICH, x -> x.mark(s, 0, 1), BAD);
            refused("mark, no SHEET, BAD ahead of all", RICH, x -> x.mark(s, -1, NONE), BAD);
        }
        refused("mark, MISSING", RICH, x -> x.mark(MISSING, 0, 1), NOTHING);
        refused("mark, NOTHING ahead of INDEX", RICH, x -> x.mark(MISSING, -1, 1), NOTHING);
        refused("mark, NOTHING ahead of KIND", RICH, x -> x.mark(MISSING, 24, NONE), NOTHING);
        refused("mark, NOTHING ahead of BAD v", RICH, x -> x.mark(MISSING, 24, 100000), NOTHING);
        for (int place : new int[] {-1, 3, 4, 23, 24, MAX, MIN}) {
            refused("mark, no place", RICH, x -> x.mark(SHORTS, place, 1), INDEX);
            refused("mark, INDEX ahead of KIND", RICH, x -> x.mark(SHORTS, place, NONE), INDEX);
        }
        for (int place : new int[] {-1, 4, 5, 23, 24, MAX, MIN}) {
            refused("mark, no place", RICH, x -> x.mark(FLOATS, place, 1), INDEX);
            refused("mark, INDEX ahead of BAD v", RICH, x -> x.mark(FLOATS, place, 100000), INDEX);
        }
        refused("mark, no place of none", RICH, x -> x.mark(NO_PLACES, 0, 1), INDEX);
        for (int place = 0; place < 3; place++) {
            int p = place;
            refused("mark, NONE in shorts", RICH, x -> x.mark(SHORTS, p, NONE), KIND);
        }
        for (int v : new int[] {100000, -100000, MAX, MIN, NONE + 1, NONE - 1}) {
            refused("mark, floats " + v, RICH, x -> x.mark(FLOATS, 0, v), BAD);
            refused("mark, floats " + v + " where NO NUMBER is", RICH, x -> x.mark(FLOATS, 1, v), BAD);
        }
    }

    /** BAD; NOTHING; of reads then NONE: there is none. */
    static void p34And35PourReads() {
        for (int s : NO_SHEET) {
            refused("pour, no SHEET", RICH, x -> x.pour(s), BAD);
            refused("reads, no SHEET", RICH, x -> x.reads(s), BAD);
        }
        refused("pour, MISSING", RICH, x -> x.pour(MISSING), NOTHING);
        refused("reads, MISSING", RICH, x -> x.reads(MISSING), NOTHING);
        refused("reads, none", RICH, x -> x.reads(NO_PLACES), NONE);
    }

    /** BAD; NOTHING; KIND: they are not of one sort; INDEX. */
    static void p36Copy() {
        for (int s : NO_SHEET) {
            refused("copy, from no SHEET", RICH, x -> x.copy(s, 0, SHORTS, 0, 1), BAD);
            refused("copy, to no SHEET", RICH, x -> x.copy(SHORTS, 0, s, 0, 1), BAD);
            refused("copy, BAD ahead of NOTHING", RICH, x -> x.copy(s, 0, MISSING, 0, 1), BAD);
            refused("copy, BAD ahead of NOTHING", RICH, x -> x.copy(MISSING, 0, s, 0, 1), BAD);
            refused("copy, BAD ahead of INDEX", RICH, x -> x.copy(s, -1, SHORTS, 0, 9), BAD);
            refused("copy, BAD ahead of INDEX", RICH, x -> x.copy(FLOATS, -1, s, -1, -1), BAD);
        }
        refused("copy, from a MISSING one", RICH, x -> x.copy(MISSING, 0, SHORTS, 0, 1), NOTHING);
        refused("copy, to a MISSING one", RICH, x -> x.copy(SHORTS, 0, MISSING, 0, 1), NOTHING);
        refused("copy, a MISSING one, no places", RICH, x -> x.copy(MISSING, 0, MISSING, 0, 0), NOTHING);
        refused("copy, NOTHING ahead of KIND", RICH, x -> x.copy(FLOATS, 0, MISSING, 0, 1), NOTHING);
        refused("copy, NOTHING ahead of KIND", RICH, x -> x.copy(MISSING, 0, FLOATS, 0, 1), NOTHING);
        refused("copy, NOTHING ahead of INDEX", RICH, x -> x.copy(SHORTS, 9, MISSING, -1, 25), NOTHING);
        refused("copy, NOTHING ahead of INDEX", RICH, x -> x.copy(MISSING, -1, SHORTS, 9, -1), NOTHING);
        refused("copy, shorts to floats", RICH, x -> x.copy(SHORTS, 0, FLOATS, 0, 1), KIND);
        refused("copy, floats to shorts", RICH, x -> x.copy(FLOATS, 0, SHORTS, 0, 1), KIND);
        refused("copy, of two sorts, no places", RICH, x -> x.copy(FLOATS, 0, NO_PLACES, 0, 0), KIND);
        refused("copy, KIND ahead of INDEX", RICH, x -> x.copy(SHORTS, 3, FLOATS, 0, 1), KIND);
        refused("copy, KIND ahead of INDEX", RICH, x -> x.copy(FLOATS, 0, SHORTS, -1, 1), KIND);
        refused("copy, KIND ahead of INDEX", RICH, x -> x.copy(FLOATS, 0, SHORTS, 0, -1), KIND);
        int[][] wrong = {{-1, 0, 1}, {0, -1, 1}, {3, 0, 1}, {0, 3, 1}, {2, 0, 2}, {0, 2, 2}, {0, 0, 4}, {0, 0, MAX},
            {1, 1, MAX}, {MAX, 0, 1}, {0, MAX, 1}, {MAX, MAX, MAX}, {MIN, 0, 1}, {0, MIN, 1}, {0, 0, -1}, {0, 0, MIN},
            {4, 0, 0}, {0, 4, 0}, {-1, 0, 0}, {0, -1, 0}, {-1, -1, 2}, {MAX, 0, MIN}, {2, 2, -2}};
        for (int[] w : wrong) refused("copy, INDEX", RICH, x -> x.copy(SHORTS, w[0], SHORTS, w[1], w[2]), INDEX);
        refused("copy, no such place to copy to", RICH, x -> x.copy(SHORTS, 0, NO_PLACES, 0, 1), INDEX);
        refused("copy, no such place to copy from", RICH, x -> x.copy(NO_PLACES, 0, SHORTS, 0, 1), INDEX);
    }

    /** BAD: slot, thing, k; NOTHING: that SHEET is MISSING. */
    static void p37Lay() {
        for (int slot : NO_SLOT) {
            for (int thing = 0; thing < 4; thing++) {
                int t = thing;
                refused("lay, no SLOT", RICH, x -> x.lay(slot, t, 0), BAD);
            }
            refused("lay, BAD ahead of NOTHING", RICH, x -> x.lay(slot, 2, MISSING), BAD);
        }
        for (int slot = 0; slot < 5; slot++) {
            int s = slot;
            for (int thing : new int[] {-1, 4, MAX, MIN}) refused("lay, no thing", RICH, x -> x.lay(s, thing, 2), BAD);
            refused("lay, no JOINT", RICH, x -> x.lay(s, 1, 6), BAD);
            refused("lay, no SHEET", RICH, x -> x.lay(s, 2, 4), BAD);
            refused("lay, MISSING", RICH, x -> x.lay(s, 2, MISSING), NOTHING);
        }
        for (int j : NO_JOINT) refused("lay, no JOINT", RICH, x -> x.lay(3, 1, j), BAD);
        for (int s : NO_SHEET) refused("lay, no SHEET", RICH, x -> x.lay(3, 2, s), BAD);
        refused("lay, there are no JOINTS", NEW, x -> x.lay(0, 1, 0), BAD);
    }

    /** BAD; NOTHING; KIND: it is no JOINT, or not of that KIND, nor of one under it. */
    static void p38Ask() {
        for (int slot : NO_SLOT) refused("ask, no SLOT", RICH, x -> x.ask(slot, 0), BAD);
        for (int kind : NO_KIND) {
            for (int slot = 0; slot < 5; slot++) {
                int s = slot;
                refused("ask, BAD ahead of NOTHING and KIND", RICH, x -> x.ask(s, kind), BAD);
            }
        }
        for (int kind = 0; kind < 6; kind++) {
            int k = kind;
            refused("ask, nothing", RICH, x -> x.ask(EMPTY_SLOT, k), NOTHING);
            refused("ask, a SHEET", RICH, x -> x.ask(SHEET_SLOT, k), KIND);
            refused("ask, a number", RICH, x -> x.ask(NUMBER_SLOT, k), KIND);
            if (k != 0 && k != 2) refused("ask, not of that KIND", RICH, x -> x.ask(JOINT_SLOT, k), KIND);
        }
    }

    /** BAD: slot; NOTHING; KIND: it is no SHEET; INDEX; KIND: NO NUMBER. */
    static void p39Item() {
        for (int slot : NO_SLOT) {
            refused("item, no SLOT", RICH, x -> x.item(slot, 0), BAD);
            refused("item, no SLOT, BAD ahead of INDEX", RICH, x -> x.item(slot, -1), BAD);
        }
        for (int place : new int[] {0, -1, 24, MAX, MIN}) {
            refused("item, nothing", RICH, x -> x.item(EMPTY_SLOT, place), NOTHING);
            refused("item, a JOINT", RICH, x -> x.item(JOINT_SLOT, place), KIND);
            refused("item, a number", RICH, x -> x.item(NUMBER_SLOT, place), KIND);
        }
        for (int place : new int[] {-1, 3, 24, MAX, MIN}) {
            refused("item, no place", RICH, x -> x.item(SHEET_SLOT, place), INDEX);
        }
        for (int place : new int[] {-1, 4, 24, MAX, MIN}) {
            refused("item, no place", RICH, x -> x.item(FLOATS_SLOT, place), INDEX);
        }
        refused("item, NO NUMBER", RICH, x -> x.item(FLOATS_SLOT, 1), KIND);
    }

    /** BAD: slot; NOTHING; KIND: it is no number; NO: n is 0. */
    static void p40Rest() {
        for (int slot : NO_SLOT) {
            refused("rest, no SLOT", RICH, x -> x.rest(slot, 1), BAD);
            refused("rest, no SLOT, BAD ahead of NO", RICH, x -> x.rest(slot, 0), BAD);
        }
        for (int n : new int[] {0, 1, -1, MAX, MIN}) {
            refused("rest, nothing, ahead of NO", RICH, x -> x.rest(EMPTY_SLOT, n), NOTHING);
            refused("rest, a JOINT, ahead of NO", RICH, x -> x.rest(JOINT_SLOT, n), KIND);
            refused("rest, a SHEET, ahead of NO", RICH, x -> x.rest(SHEET_SLOT, n), KIND);
        }
        refused("rest by 0", RICH, x -> x.rest(NUMBER_SLOT, 0), NO);
    }

    static void p41Tell() {
        for (int v : new int[] {0, 100, MAX, MIN}) refused("tell, FULL", CROWDED, x -> x.tell(v), FULL);
    }

    /** BAD; NO: there is no IMAGE. The numbers are gone, and nothing else is otherwise. */
    static void p42CheckBad() {
        for (int n : new int[] {0, 31, -1, MAX, MIN}) {
            refused("check " + n, RICH, x -> x.check(n), BAD, () -> Twins.withTape(Twins.corners()));
            refused("check " + n + ", BAD ahead of NO", RefusalsTest::numbersOnly, x -> x.check(n), BAD, NEW);
            refused("check " + n + ", none wait", NEW, x -> x.check(n), BAD);
        }
    }

    static void p42CheckNo() {
        for (int n : new int[] {1, 2, 30}) {
            refused("check " + n + ", no IMAGE", RefusalsTest::numbersOnly, x -> x.check(n), NO, NEW);
            refused("check " + n + ", no IMAGE, none wait", NEW, x -> x.check(n), NO);
        }
    }

    private static QuarterTurn numbersOnly() {
        QuarterTurn x = new QuarterTurn();
        for (int i = 0; i < 4; i++) x.tell(0);
        return x;
    }

    static void p44And45BackCount() {
        refused("back, no IMAGE", NEW, x -> x.back(), NO);
        refused("back, no IMAGE", LATE, x -> x.back(), NO);
        for (int what : new int[] {-1, 8, MAX, MIN}) refused("count " + what, RICH, x -> x.count(what), BAD);
    }
}
