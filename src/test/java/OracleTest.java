import java.util.Random;

/**
 * Runs of 512 calls drawn by lot, with arguments near and far, each answer compared with the Oracle's; some begin near
 * the last HOUR, some with nearly all TEXTS told.
 */
public final class OracleTest {
    private static final int RUNS = 150;
    private static final int[] FAR = {Integer.MIN_VALUE, Integer.MAX_VALUE, -1, -1000000005, 41, 101, 256, 65536, 100000};

    private static final String SIGNS = "gradftsleakfine0123456789()!|&<=>+-*/ (((!!!%\u00e9";

    private final Random lot;
    private final QuarterTurn x = new QuarterTurn();
    private final Oracle o = new Oracle();
    private final StringBuilder trail = new StringBuilder();
    private final boolean wild;
    private String told = "";
    private int toldAt;

    private OracleTest(long seed) {
        lot = new Random(seed);
        wild = seed % 5 == 0;
    }

    public static void main(String[] args) {
        int runs = args.length > 0 ? Integer.parseInt(args[0]) : RUNS;
        for (int seed = 0; seed < runs; seed++) {
            OracleTest test = new OracleTest(seed);
            int had = seed % 7 == 3 ? test.growOld() : seed % 7 == 5 ? test.learn() : 0;
            for (int i = had; i < 512; i++) {
                if (test.agrees()) continue;
                System.out.println("OracleTest: run " + seed + ", call " + (i + 1) + "\n" + test.trail);
                System.exit(1);
            }
        }
        faultsAgree();
        System.out.println("OracleTest: " + runs + " runs agree");
    }

    /** THE HOUR comes near 9999: how many calls that took. */
    private int growOld() {
        for (int i = 0; i < 99; i++) {
            x.hours(100);
            o.hours(100);
        }
        int more = 40 + lot.nextInt(60);
        x.hours(more);
        o.hours(more);
        return 100;
    }

    /** All but one or two TEXTS that there is room for are told: how many calls that took, at most. */
    private int learn() {
        int texts = 12 + lot.nextInt(2);
        for (int i = 0; i < texts; i++) {
            String text = i % 4 == 0 ? "leak g+" + i : i % 4 == 1 ? "fine t*" + i : "fee d-" + i;
            Tapes.tell(x, text);
            o.tape = text;
            o.text();
        }
        return 3 * texts;
    }

    private int upTo(int most) {
        if (lot.nextInt(wild ? 8 : 60) == 0) return FAR[lot.nextInt(FAR.length)];
        if (lot.nextInt(40) == 0) return most + 1;
        return lot.nextInt(most + 1);
    }

    private int aJoint() {
        int many = o.now.joints.size();
        return lot.nextInt(30) == 0 || many == 0 ? upTo(8) : lot.nextInt(many);
    }

    private boolean same(String call, int got, int want) {
        trail.append(call).append(" = ").append(got).append(got == want ? "\n" : ", the Oracle: " + want + "\n");
        return got == want;
    }

    private boolean agrees() {
        if (toldAt < told.length()) return feedMore();
        if (!told.isEmpty()) return endText();
        int act = lot.nextInt(100);
        if (act < 30) return joints(lot.nextInt(13));
        if (act < 40) return hours(lot.nextInt(4));
        if (act < 58) return thoughts(lot.nextInt(11));
        if (act < 67) return texts(lot.nextInt(9));
        if (act < 90) return sheets(lot.nextInt(16));
        return rows(lot.nextInt(9));
    }

    private boolean joints(int call) {
        int a = aJoint(), b, c, e;
        switch (call) {
            case 0:
                a = upTo(5);
                b = upTo(40);
                c = upTo(40);
                e = upTo(9);
                return same("joint " + a + " " + b + " " + c + " " + e, x.joint(a, b, c, e), o.joint(a, b, c, e));
            case 1: b = upTo(5); return same("as " + a + " " + b, x.as(a, b), o.as(a, b));
            case 2: b = upTo(5); return same("turns " + a + " " + b, x.turns(a, b), o.turns(a, b));
            case 3:
            case 4:
                b = 2 + upTo(4);
                c = b == 2 ? upTo(40) : upTo(9);
                return same("set " + a + " " + b + " " + c, x.set(a, b, c), o.set(a, b, c));
            case 5:
            case 6: b = upTo(18) - 9; return same("turn " + a + " " + b, x.turn(a, b), o.turn(a, b));
            case 7:
                b = upTo(2);
                c = upTo(b == 0 ? 1 : b == 1 ? 100 : lot.nextBoolean() ? 9999 : 500);
                return same("rule " + b + " " + c, x.rule(b, c), o.rule(b, c));
            case 8: return same("empty", x.empty(), o.empty());
            case 9: b = upTo(8); return same("deal " + b, x.deal(b), o.deal(b));
            case 10: b = lot.nextBoolean() ? lot.nextInt() : upTo(9); return same("seed " + b, x.seed(b), o.seed(b));
            default: b = upTo(12); return same("told " + a + " " + b, x.told(a, b), o.told(a, b));
        }
    }

    private boolean hours(int call) {
        int a = aJoint(), b = lot.nextInt(9) == 0 ? upTo(100) : upTo(12);
        switch (call) {
            case 0: return same("hours " + b, x.hours(b), o.hours(b));
            case 1: b = upTo(8); return same("sink " + b, x.sink(b), o.sink(b));
            case 2: return same("seen " + a, x.seen(a), o.seen(a));
            default: return same("from " + a, x.from(a), o.from(a));
        }
    }

    private boolean thoughts(int call) {
        int a = aJoint(), n = lot.nextInt(4) == 0 ? upTo(60) : upTo(9), what = upTo(1);
        switch (call) {
            case 0: return same("quarter " + a + " " + what, x.quarter(a, what), o.quarter(a, what));
            case 1: what = upTo(10); return same("behind " + n + " " + what, x.behind(n, what), o.behind(n, what));
            case 2: return same("full", x.full(), o.full());
            case 3: return same("shut " + a, x.shut(a), o.shut(a));
            case 4: return same("mend " + a + " " + n + " " + what, x.mend(a, n, what), o.mend(a, n, what));
            case 5: return same("first " + n + " " + what, x.first(n, what), o.first(n, what));
            case 6: return same("becomes " + a + " " + n + " " + what, x.becomes(a, n, what), o.becomes(a, n, what));
            case 7: return same("loose " + n + " " + what, x.loose(n, what), o.loose(n, what));
            case 8: a = upTo(3); return same("whose " + a + " " + what, x.whose(a, what), o.whose(a, what));
            case 9: return same("fee", x.fee(), o.fee());
            default: return same("fine " + a, x.fine(a), o.fine(a));
        }
    }

    private boolean texts(int call) {
        int a = upTo(14), b = upTo(1);
        switch (call) {
            case 0:
                a = lot.nextInt();
                return same("feed " + a, x.feed(a, b, a), o.feed(a, b, a));
            case 1: a = upTo(96); return same("trim " + a, x.trim(a), o.trim(a));
            case 2: return same("text", x.text(), o.text());
            case 3: return same("textTold " + a + " " + b, x.textTold(a, b), o.textTold(a, b));
            case 4: a = upTo(2); return same("why " + a, x.why(a), o.why(a));
            default:
                told = text(lot);
                toldAt = 0;
                return same("text of \"" + told + "\"", x.trim(0), o.trim(0));
        }
    }

    private boolean feedMore() {
        int a = Tapes.four(told, toldAt), b = Tapes.four(told, toldAt + 4), c = Tapes.four(told, toldAt + 8);
        toldAt += 12;
        return same("feed " + a + " " + b + " " + c, x.feed(a, b, c), o.feed(a, b, c));
    }

    private boolean endText() {
        int length = told.length();
        if (o.tape.length() > length) return same("trim " + length, x.trim(length), o.trim(length));
        told = "";
        return same("text", x.text(), o.text());
    }

    private boolean sheets(int call) {
        int s = upTo(3), slot = upTo(4), p = lot.nextInt(4) == 0 ? upTo(24) : upTo(7), v = value();
        switch (call) {
            case 0:
            case 1:
                int sort = lot.nextInt(9) == 0 ? -1 : upTo(1);
                int n = lot.nextInt(9) == 0 ? -lot.nextInt(3) : p;
                return same("sheet " + s + " " + sort + " " + n, x.sheet(s, sort, n), o.sheet(s, sort, n));
            case 2:
            case 3:
            case 4: return same("mark " + s + " " + p + " " + v, x.mark(s, p, v), o.mark(s, p, v));
            case 5: return same("pour " + s, x.pour(s), o.pour(s));
            case 6: return same("reads " + s, x.reads(s), o.reads(s));
            case 7:
                int t = upTo(3), at = upTo(6), many = upTo(5) - (lot.nextInt(9) == 0 ? 1 : 0);
                return same("copy " + s + " " + p + " " + t + " " + at + " " + many, x.copy(s, p, t, at, many),
                    o.copy(s, p, t, at, many));
            case 8:
            case 12:
            case 13:
                int thing = upTo(3), k = thing == 1 ? aJoint() : thing == 2 ? upTo(3) : v;
                return same("lay " + slot + " " + thing + " " + k, x.lay(slot, thing, k), o.lay(slot, thing, k));
            case 9: v = upTo(5); return same("ask " + slot + " " + v, x.ask(slot, v), o.ask(slot, v));
            case 10:
            case 14: return same("item " + slot + " " + p, x.item(slot, p), o.item(slot, p));
            default: return same("rest " + slot + " " + v, x.rest(slot, v), o.rest(slot, v));
        }
    }

    private int value() {
        switch (lot.nextInt(6)) {
            case 0: return lot.nextInt();
            case 1: return -1000000005;
            case 2: return lot.nextInt(250000) - 125000;
            case 3: return o.now.joints.isEmpty() ? 0 : o.now.leaks(o.now.joints.get(lot.nextInt(o.now.joints.size())));
            default: return lot.nextInt(50) - 5;
        }
    }

    private boolean rows(int call) {
        int v = value();
        switch (call) {
            case 0:
            case 1:
            case 2:
            case 3:
                v = lot.nextInt(6) == 0 ? v : dueNext();
                return same("tell " + v, x.tell(v), o.tell(v));
            case 4:
                v = lot.nextBoolean() ? (o.waiting.size() + 1) / 2 : upTo(30);
                return same("check " + v, x.check(v), o.check(v));
            case 5: return lot.nextInt(3) > 0 || same("keep", x.keep(), o.keep());
            case 6: return lot.nextInt(3) > 0 || same("back", x.back(), o.back());
            default: v = upTo(7); return same("count " + v, x.count(v), o.count(v));
        }
    }

    /** The number that check would have next, so that rows come to be right for a while. */
    private int dueNext() {
        if (o.image == null) return 0;
        int place = o.waiting.size();
        Oracle.World w = o.image.twin().on(place / 2 + 1);
        return place % 2 == 0 ? w.drops : w.allTight();
    }

    /** A text by lot: most are whole, some have a byte put otherwise, left out or put in. */
    private static String text(Random lot) {
        String[] keys = {"leak", "fee", "fine"};
        String[] names = {"gra", "df", "ts"};
        int key = lot.nextInt(3);
        StringBuilder s = new StringBuilder(blanks(lot)).append(keys[key]).append(lot.nextInt(9) == 0 ? "" : " ");
        e(lot, s, names[key], 3 + lot.nextInt(14));
        s.append(blanks(lot));
        for (int i = lot.nextInt(3); i > 0 && lot.nextInt(2) == 0 && s.length() > 0; i--) {
            int at = lot.nextInt(s.length());
            char c = SIGNS.charAt(lot.nextInt(SIGNS.length()));
            switch (lot.nextInt(3)) {
                case 0: s.setCharAt(at, c); break;
                case 1: s.deleteCharAt(at); break;
                default: s.insert(at, c); break;
            }
        }
        if (s.length() > 96) s.setLength(96);
        return s.length() == 0 ? " " : s.toString();
    }

    private static String blanks(Random lot) {
        return lot.nextInt(6) == 0 ? "  ".substring(lot.nextInt(2)) : "";
    }

    private static void e(Random lot, StringBuilder s, String names, int size) {
        s.append(blanks(lot));
        if (size <= 1) {
            s.append(lot.nextInt(3) > 0 ? "" + names.charAt(lot.nextInt(names.length())) : "" + lot.nextInt(lot.nextBoolean() ? 12000 : 20));
            s.append(blanks(lot));
            return;
        }
        int way = lot.nextInt(10);
        if (way == 0) {
            s.append('!');
            e(lot, s, names, size - 1);
        } else if (way < 3) {
            s.append('(');
            e(lot, s, names, size - 1);
            s.append(')');
        } else {
            int left = 1 + lot.nextInt(size - 1);
            e(lot, s, names, left);
            s.append("+-*/+-*/<=>&|".charAt(lot.nextInt(13)));
            e(lot, s, names, size - left);
        }
    }

    /** Many more texts than the runs tell: their FAULTS and values, and rows of ( and ! around the bound. */
    private static void faultsAgree() {
        Random lot = new Random(7);
        for (int i = 0; i < 60000; i++) {
            String text = i % 3 == 0 ? deep(lot) : text(lot);
            QuarterTurn x = new QuarterTurn();
            int got = Tapes.tell(x, text), fault = Oracle.fault(text);
            int fee = x.fee(), want = fault >= 0 || !text.trim().startsWith("fee") ? 0 : new Oracle.Value(text, 0, 0).all();
            if (got == (fault < 0 ? 0 : -100 - fault) && fee == want) continue;
            System.out.println("OracleTest: \"" + text + "\" " + got + " " + fee + ", the Oracle: " + fault + " " + want);
            System.exit(1);
        }
    }

    private static String deep(Random lot) {
        StringBuilder s = new StringBuilder("fee ");
        int open = 0;
        for (int i = lot.nextInt(40); i > 0; i--) {
            int way = lot.nextInt(20);
            if (way < 8) s.append('(');
            else if (way < 16) s.append('!');
            else if (way < 18) s.append("d+");
            else s.append("3)<");
            open += way < 8 ? 1 : way < 18 ? 0 : -1;
        }
        s.append("f");
        for (; open > 0; open--) s.append(')');
        if (s.length() > 96) s.setLength(96);
        return s.toString();
    }
}
