import java.util.Map;
import java.util.function.ToIntFunction;

/**
 * Each call that is taken changes what its promise tells and nothing else: an object that has been asked is compared
 * with a twin that has not. What may differ is told by how its name begins in Twins.
 */
public final class FramesTest {
    private static final int NONE = -1000000005, NOTHING = -1000000011;
    private static final Map<String, Integer> RICH = Twins.seen(Twins.rich());
    private static final Due d = new Due("FramesTest");

    public static void main(String[] args) {
        joints();
        rules();
        hours();
        told();
        thoughts();
        texts();
        sheets();
        slots();
        rows();
        images();
        d.end();
    }

    /** What the asked object is seen to be then. */
    private static Map<String, Integer> only(String call, ToIntFunction<QuarterTurn> asked, int want, String... may) {
        QuarterTurn x = Twins.rich();
        d.due(call, asked.applyAsInt(x), want);
        Map<String, Integer> then = Twins.seen(x);
        d.same(call, then, RICH, may);
        return then;
    }

    private static void is(Map<String, Integer> then, String name, int want) {
        d.due(name, then.getOrDefault(name, -99), want);
    }

    /** Nothing may differ; the answer is looked at elsewhere. */
    private static void nothing(String call, ToIntFunction<QuarterTurn> asked) {
        QuarterTurn x = Twins.rich();
        asked.applyAsInt(x);
        d.same(call, Twins.seen(x), RICH);
    }

    private static int was(String name) {
        return RICH.getOrDefault(name, -99);
    }

    static void joints() {
        Map<String, Integer> then = only("joint", x -> x.joint(2, 3, 4, 5), 6, "now: count 0", "now: sink 6", "now: sink 8",
            "now: told 6", "behind", "reads");
        is(then, "now: count 0", 7);
        is(then, "now: sink 8", was("now: sink 8") + 3);
        then = only("turns", x -> x.turns(1, 4), 1, "now: told 1 0", "now: sink 6", "behind", "reads");
        is(then, "now: told 1 0", 4);
        then = only("turns to CRACKED", x -> x.turns(0, 5), 0, "now: told 0 0", "now: sink 6", "now: sink 7", "behind", "reads");
        is(then, "now: sink 7", was("now: sink 7") | 1);
        only("turns to what it is", x -> x.turns(5, 5), 5);
        for (int what = 2; what <= 6; what++) {
            int w = what, is = was("now: told 2 " + what), to = is == 9 ? 8 : is + 1;
            then = only("set " + w, x -> x.set(2, w, to), is, "now: told 2 " + w, "now: sink 6", "behind", "reads");
            is(then, "now: told 2 " + w, to);
            only("set " + w + " to what it is", x -> x.set(2, w, is), is);
        }
        int tight = was("now: told 4 1");
        then = only("turn down", x -> x.turn(4, -3), tight - 3, "now: told 4 1", "now: sink 6", "now: sink 8", "behind", "reads");
        is(then, "now: told 4 1", tight - 3);
        is(then, "now: sink 8", was("now: sink 8") - 3);
        int low = was("now: told 0 1");
        then = only("turn up, within what it BEARS", x -> x.turn(0, 2), low + 2, "now: told 0 1", "now: sink 6", "now: sink 8",
            "now: fine", "behind", "reads", "tape: fine");
        is(then, "now: told 0 1", low + 2);
    }

    static void rules() {
        only("rule HOT", x -> x.rule(0, 1 - x.sink(5)), was("now: sink 5"), "now: sink 5", "now: sink 6", "behind", "reads");
        Map<String, Integer> then = only("rule SHAKE", x -> x.rule(1, 3), 70, "now: count 2", "behind");
        is(then, "now: count 2", 3);
        then = only("rule POT", x -> x.rule(2, 2), 900, "now: count 3", "behind");
        is(then, "now: count 3", 2);
        then = only("empty", QuarterTurn::empty, was("now: sink 1"), "now: sink 1", "behind: FLOOD");
        is(then, "now: sink 1", 0);
        then = only("seed", x -> x.seed(-44), was("now: count 7"), "now: count 7", "behind");
        is(then, "now: count 7", -44);
        then = only("deal", x -> x.deal(1), 1, "now: count 0", "now: count 7", "now: told 6", "now: sink 6", "now: sink 7",
            "now: sink 8", "behind", "reads");
        is(then, "now: count 0", 7);
    }

    static void hours() {
        QuarterTurn x = Twins.rich();
        int drops = x.hours(2);
        Map<String, Integer> then = Twins.seen(x);
        d.same("hours", then, RICH, "now: sink 0", "now: sink 1", "now: sink 2", "now: sink 4", "now: sink 5", "now: sink 6",
            "now: sink 8", "now: count 1", "now: count 7", "now: told 0 1", "now: told 1 1", "now: told 2 1", "now: told 3 1",
            "now: told 4 1", "now: told 5 1", "now: told 0 7", "now: told 1 7", "now: told 2 7", "now: told 3 7", "now: told 4 7",
            "now: told 5 7", "now: fee", "now: fine", "behind", "reads", "tape: fine");
        is(then, "now: sink 0", was("now: sink 0") + drops);
        is(then, "now: count 1", was("now: count 1") + 2);
    }

    static void told() {
        for (int j = 0; j < 6; j++) {
            int joint = j;
            for (int what = 0; what <= 12; what++) {
                int w = what;
                nothing("told " + what, x -> x.told(joint, w));
            }
            nothing("as", x -> x.as(joint, 1));
            nothing("seen", x -> x.seen(joint));
            nothing("from", x -> x.from(joint));
            nothing("fine", x -> x.fine(joint));
        }
        for (int what = 0; what <= 8; what++) {
            int w = what;
            nothing("sink " + what, x -> x.sink(w));
            nothing("count " + what, x -> x.count(w));
        }
        nothing("fee", QuarterTurn::fee);
        nothing("textTold", x -> x.textTold(1, 1));
        nothing("why", x -> x.why(1));
        nothing("reads", x -> x.reads(0));
        nothing("ask", x -> x.ask(0, 0));
        nothing("item", x -> x.item(1, 0));
        nothing("rest", x -> x.rest(2, 5));
    }

    /** All that follows is only thought: nothing changes. */
    static void thoughts() {
        for (int j = 0; j < 6; j++) {
            int joint = j;
            nothing("shut", x -> x.shut(joint));
            nothing("behind", x -> x.behind(100, 3 + joint));
            for (int what = 0; what < 2; what++) {
                int w = what;
                nothing("quarter", x -> x.quarter(joint, w));
                nothing("mend", x -> x.mend(joint, 60, w));
                nothing("becomes", x -> x.becomes(joint, 60, w));
                nothing("first", x -> x.first(60 - joint, w));
                nothing("loose", x -> x.loose(60 - joint, w));
                nothing("whose", x -> x.whose(joint % 2, w));
            }
        }
        for (int what = 0; what < 3; what++) {
            int w = what;
            nothing("behind", x -> x.behind(100, w));
        }
        nothing("full", QuarterTurn::full);
    }

    static void texts() {
        Map<String, Integer> then = only("feed", x -> x.feed(0x2b312b32, 0x2b332b34, 0x2b352b36), 20, "now: count 6", "tape");
        is(then, "now: count 6", 20);
        is(then, "tape: fine", was("tape: fine") + 21);
        then = only("trim", x -> x.trim(6), 6, "now: count 6", "tape");
        is(then, "now: count 6", 6);
        is(then, "tape: fine", was("tape: fine") - 7);
        then = only("text", QuarterTurn::text, 3, "now: count 4", "now: count 6", "now: textTold 3", "now: why 2", "now: fine",
            "tape: text", "tape: why");
        is(then, "now: why 2", 3);
        is(then, "now: count 6", 0);
        is(then, "now: count 4", 4);
        is(then, "tape: text", -100);
    }

    static void sheets() {
        Map<String, Integer> then = only("sheet", x -> x.sheet(2, 0, 2), 2, "sheet 2", "reads 2");
        is(then, "sheet 2: place 1", 0);
        then = only("sheet, MISSING", x -> x.sheet(1, -1, 9), 0, "sheet 1", "reads 1");
        is(then, "reads 1", NOTHING);
        then = only("sheet anew", x -> x.sheet(0, 1, 3), 3, "sheet 0", "reads 0");
        is(then, "sheet 0: its sort", 1);
        then = only("mark", x -> x.mark(0, 1, 44), 1, "sheet 0: place 1", "reads 0");
        is(then, "sheet 0: place 1", 44);
        then = only("mark, NO NUMBER", x -> x.mark(1, 2, NONE), 1, "sheet 1: place 2", "reads 1");
        then = only("pour", x -> x.pour(0), 3, "now: told 0 1", "now: told 1 1", "now: told 2 1", "now: sink 6", "now: sink 8",
            "now: fine", "behind", "reads", "tape: fine");
        is(then, "now: told 0 1", 3);
        is(then, "now: told 1 1", 0);
        is(then, "now: told 2 1", 40);
        then = only("copy", x -> x.copy(0, 0, 0, 1, 2), 2, "sheet 0: place 1", "sheet 0: place 2", "reads 0");
        is(then, "sheet 0: place 2", -5);
        only("copy none", x -> x.copy(0, 3, 3, 0, 0), 0);
    }

    static void slots() {
        Map<String, Integer> then = only("lay nothing", x -> x.lay(2, 0, 0), 3, "slot 2");
        is(then, "slot 2: rest", NOTHING);
        then = only("lay a number", x -> x.lay(3, 3, 12), 0, "slot 3");
        is(then, "slot 3: rest", 12);
        then = only("lay a JOINT", x -> x.lay(1, 1, 5), 2, "slot 1");
        is(then, "slot 1: ask 5", 1);
        then = only("lay a SHEET", x -> x.lay(0, 2, 1), 1, "slot 0");
        is(then, "slot 0: place 2", 70000);
        only("lay what it holds", x -> x.lay(2, 3, -17), 3);
    }

    static void rows() {
        Map<String, Integer> then = only("tell", x -> x.tell(9), 5, "now: count 5", "waiting");
        is(then, "now: count 5", 5);
        is(then, "waiting: check", 5);
        is(RICH, "waiting: check", 0);
        then = only("check", x -> x.check(2), 0, "now: count 5", "waiting");
        is(then, "now: count 5", 0);
        is(then, "waiting: check", 1);
        only("check, not right", x -> x.check(1), 3, "now: count 5", "waiting");
    }

    /** Keep and back leave SHEETS, SLOTS, numbers that wait and THE TAPE as they are. */
    static void images() {
        Map<String, Integer> then = only("keep", QuarterTurn::keep, 6, "image", "waiting: check");
        for (String name : then.keySet()) {
            if (!name.startsWith("now") || name.endsWith("count 5") || name.endsWith("count 6") || name.contains("textTold")) continue;
            is(then, name.replace("now", "image"), was(name));
        }
        then = only("back", QuarterTurn::back, 5, "now", "behind", "reads", "tape");
        for (String name : then.keySet()) {
            if (!name.startsWith("image") || name.endsWith("back") || name.endsWith("hours")) continue;
            if (!name.endsWith("count 5") && !name.endsWith("count 6")) is(then, name.replace("image", "now"), was(name));
        }
        is(then, "now: count 5", 4);
        is(then, "now: count 6", 8);
        is(then, "tape: text", 2);
        only("back twice", x -> x.back() + x.back(), 10, "now", "behind", "reads", "tape");
        QuarterTurn x = Twins.rich();
        x.back();
        x.back();
        QuarterTurn y = Twins.rich();
        y.back();
        d.same("back again", Twins.seen(x), Twins.seen(y));
    }
}
