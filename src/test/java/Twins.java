import java.util.LinkedHashMap;
import java.util.Map;

/**
 * Objects with something in every corner, alike when they are made alike, and all that can be seen of one. What is
 * seen of two twins tells whether a call that only one of them had changed anything.
 */
final class Twins {
    private static final int NONE = -1000000005, NOTHING = -1000000011, INDEX = -1000000013;

    private Twins() {
    }

    /** Six JOINTS, SHEETS 0 (shorts), 1 (floats), 3 (shorts, no places), an IMAGE; THE TAPE is empty, no number waits. */
    static QuarterTurn corners() {
        QuarterTurn x = new QuarterTurn();
        piped(x);
        x.keep();
        goOn(x);
        sheetsAndSlots(x);
        return x;
    }

    /** Corners, with a TEXT on THE TAPE and THE HOURS TOLD of two HOURS waiting. */
    static QuarterTurn rich() {
        return withTape(withNumbers(corners()));
    }

    static QuarterTurn withTape(QuarterTurn x) {
        Tapes.put(x, "fine t+7");
        return x;
    }

    static QuarterTurn withNumbers(QuarterTurn x) {
        QuarterTurn y = new QuarterTurn();
        piped(y);
        for (int i = 0; i < 2; i++) {
            y.hours(1);
            x.tell(y.sink(0));
            x.tell(y.sink(8));
        }
        return x;
    }

    /** Rich, and no room for one more JOINT, TEXT, byte or number. */
    static QuarterTurn crowded() {
        return withFullTape(withTexts(crowd(corners())));
    }

    /** Eight JOINTS, and sixty numbers that wait. */
    static QuarterTurn crowd(QuarterTurn x) {
        x.joint(1, 13, 8, 7);
        x.joint(0, 8, 3, 2);
        for (int i = 0; i < 60; i++) x.tell(100 + i);
        return x;
    }

    static QuarterTurn withTexts(QuarterTurn x) {
        for (int i = x.count(4); i < 14; i++) Tapes.tell(x, i % 2 == 0 ? "fee d+" + i : "fine t-" + i);
        return x;
    }

    static QuarterTurn withFullTape(QuarterTurn x) {
        Tapes.put(x, "fine t+7");
        x.trim(0);
        Tapes.put(x, "fine " + "t+".repeat(45) + "s");
        return x;
    }

    /** THE HOUR is 9999: no more HOURS go by but in thought. */
    static QuarterTurn late() {
        QuarterTurn x = new QuarterTurn();
        x.rule(1, 0);
        for (int i = 0; i < 100; i++) x.hours(100);
        x.rule(1, 55);
        x.seed(31);
        for (int i = 0; i < 6; i++) {
            x.joint(i % 5, 7 + 2 * i, 6 * i, 9 - i);
            x.set(i, 3, i);
            x.set(i, 4, 2);
        }
        return x;
    }

    private static void piped(QuarterTurn x) {
        x.seed(7);
        for (int i = 0; i < 5; i++) {
            x.joint(i, 9 + 3 * i, 7 * i, i * 3 % 5);
            x.set(i, 3, i + 1);
            x.set(i, 4, 5 - i);
            x.set(i, 5, 2 * i);
        }
        x.rule(1, 70);
        x.rule(2, 150);
        Tapes.tell(x, "leak g+r/3-8");
        Tapes.tell(x, "fine t*2+s");
        x.hours(7);
    }

    private static void goOn(QuarterTurn x) {
        x.joint(5, 20, 10, 8);
        x.seed(8);
        x.turn(3, 9);
        x.turn(0, -2);
        x.rule(2, 900);
        Tapes.tell(x, "fee d-f*3");
        x.hours(5);
    }

    private static void sheetsAndSlots(QuarterTurn x) {
        x.sheet(0, 0, 3);
        x.mark(0, 0, 3);
        x.mark(0, 1, -5);
        x.mark(0, 2, 70);
        x.sheet(1, 1, 4);
        x.mark(1, 0, 5);
        x.mark(1, 1, NONE);
        x.mark(1, 2, 70000);
        x.sheet(3, 0, 0);
        x.lay(0, 1, 2);
        x.lay(1, 2, 0);
        x.lay(2, 3, -17);
        x.lay(4, 2, 1);
    }

    /** All that can be seen, by name, by some 350 calls; the object is used up by it. */
    static Map<String, Integer> seen(QuarterTurn x) {
        Map<String, Integer> all = new LinkedHashMap<>();
        pipe(x, "now", all);
        for (int i = 0; i < x.count(4); i++) {
            all.put("now: textTold " + i + " 0", x.textTold(i, 0));
            all.put("now: textTold " + i + " 1", x.textTold(i, 1));
        }
        all.put("behind: DROPS", x.behind(3, 0));
        all.put("behind: FLOOD", x.behind(3, 1));
        for (int slot = 0; slot < 5; slot++) slot(x, slot, all);
        for (int sheet = 0; sheet < 4; sheet++) sheet(x, sheet, all);
        all.put("waiting: check", x.check(2));
        all.put("waiting: none then", x.count(5));
        all.put("tape: text", x.text());
        all.put("tape: none then", x.count(6));
        all.put("tape: why", x.why(2));
        all.put("tape: fine", x.fine(0));
        all.put("image: back", x.back());
        pipe(x, "image", all);
        all.put("image: hours", x.hours(1));
        return all;
    }

    private static void pipe(QuarterTurn x, String when, Map<String, Integer> all) {
        for (int what = 0; what < 8; what++) all.put(when + ": count " + what, x.count(what));
        for (int what = 0; what < 9; what++) all.put(when + ": sink " + what, x.sink(what));
        for (int j = 0; j < x.count(0); j++) {
            for (int what = 0; what < 8; what++) all.put(when + ": told " + j + " " + what, x.told(j, what));
        }
        for (int key = 0; key < 3; key++) all.put(when + ": why " + key, x.why(key));
        all.put(when + ": fee", x.fee());
        all.put(when + ": fine", x.fine(0));
    }

    private static void slot(QuarterTurn x, int slot, Map<String, Integer> all) {
        String name = "slot " + slot + ": ";
        for (int kind = 0; kind < 6; kind++) all.put(name + "ask " + kind, x.ask(slot, kind));
        all.put(name + "rest", x.rest(slot, 1000003));
        places(x, slot, name, all);
    }

    /** Looked at by the last SLOT, which has been told already. */
    private static void sheet(QuarterTurn x, int sheet, Map<String, Integer> all) {
        String name = "sheet " + sheet + ": ";
        all.put("reads " + sheet, x.reads(sheet));
        all.put(name + "lay", x.lay(4, 2, sheet));
        if (x.reads(sheet) != NOTHING) places(x, 4, name, all);
        all.put(name + "its sort", x.mark(sheet, 0, NONE));
    }

    /** Up to the first answer that tells that no more places are there. */
    private static void places(QuarterTurn x, int slot, String name, Map<String, Integer> all) {
        boolean row = x.item(slot, 99) == INDEX;
        all.put(name + "is a row", row ? 1 : 0);
        for (int p = 0; p < 24 && row && x.item(slot, p) != INDEX; p++) all.put(name + "place " + p, x.item(slot, p));
    }
}
