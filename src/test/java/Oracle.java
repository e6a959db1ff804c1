import java.util.ArrayList;
import java.util.Arrays;
import java.util.List;

/**
 * The document once more, written for plainness alone: lists, texts that are read anew each time, copies of all for
 * every thought. It shares no line with the class that it is compared with.
 */
final class Oracle {
    static final int BAD = -1000000001, NO = -1000000002, FULL = -1000000003, NONE = -1000000005;
    static final int NOTHING = -1000000011, KIND = -1000000012, INDEX = -1000000013, SIZE = -1000000014;

    /** kind, tight, ring, dirt, slant, tape, high, swollen, as told numbers them. */
    static final int K = 0, TIGHT = 1, RING = 2, DIRT = 3, SLANT = 4, TAPE = 5, HIGH = 6, SWOLLEN = 7;

    static final class World {
        List<int[]> joints = new ArrayList<>();
        List<String> texts = new ArrayList<>();
        int hot, shake = 20, pot = 2000, drops, in, flood, cracks, shaken, hour, z = 1;

        World twin() {
            World w = new World();
            for (int[] j : joints) w.joints.add(j.clone());
            w.texts.addAll(texts);
            w.hot = hot;
            w.shake = shake;
            w.pot = pot;
            w.drops = drops;
            w.in = in;
            w.flood = flood;
            w.cracks = cracks;
            w.shaken = shaken;
            w.hour = hour;
            w.z = z;
            return w;
        }

        int draw() {
            z = (int) ((long) z * 1103515245L + 12345L);
            return z >>> 8;
        }

        int last(String key) {
            int found = -1;
            for (int i = 0; i < texts.size(); i++) if (texts.get(i).trim().startsWith(key)) found = i;
            return found;
        }

        int grip(int[] j) {
            int g = j[TIGHT];
            if (hot == 1) g -= 2;
            if (g < 0) g = 0;
            return g + j[TAPE] / 2;
        }

        int leaks(int[] j) {
            if (j[K] == 5) return 60;
            int text = last("leak");
            int g = grip(j);
            int base = text < 0 ? (g > 10 ? g - 10 : 10 - g) : new Value(texts.get(text), g, j[RING], j[TAPE]).all();
            if (base < 0) base = 0;
            if (base > 99) base = 99;
            int drips = base;
            if (j[K] == 1 || j[K] == 3) drips = drips + j[RING] / 5;
            if (j[K] == 3 && g > 12) drips = drips + (g - 12) * 2;
            if (j[K] == 2 || j[K] == 4) drips = drips + j[SLANT];
            if (j[K] == 4) drips = drips + j[DIRT];
            return drips > j[SWOLLEN] ? drips - j[SWOLLEN] : 0;
        }

        int bears(int[] j) {
            int b = 25 - j[RING] / 2;
            switch (j[K]) {
                case 0: return b;
                case 1: return b - 4;
                case 3: return b - 4;
                case 5: return 40;
                default: return b > j[SLANT] ? b - j[SLANT] : 0;
            }
        }

        int hangs(int at) {
            int best = -1;
            for (int n : new int[] {at - 1, at + 1}) {
                if (n < 0 || n >= joints.size() || joints.get(n)[HIGH] >= joints.get(at)[HIGH]) continue;
                if (best < 0 || joints.get(n)[HIGH] < joints.get(best)[HIGH]) best = n;
            }
            return best < 0 ? at : hangs(best);
        }

        int allLeak() {
            return joints.stream().mapToInt(this::leaks).sum();
        }

        int allTight() {
            return joints.stream().mapToInt(j -> j[TIGHT]).sum();
        }

        World on(int hours) {
            for (int i = 0; i < hours; i++) anHour();
            return this;
        }

        void anHour() {
            for (int[] j : joints) {
                int n = leaks(j);
                for (int drop = 0; drop < n; drop++) {
                    drops++;
                    if (in < pot) in++;
                    else flood++;
                }
                if (n == 1 || n == 2 || n == 3) if (j[SWOLLEN] < 9) j[SWOLLEN]++;
            }
            int r = draw() % 100;
            if (r < shake && !joints.isEmpty()) {
                int[] j = joints.get(draw() % joints.size());
                if (j[TIGHT] > 0) j[TIGHT]--;
                j[SWOLLEN] = 0;
                shaken++;
            }
            if (hour % 6 == 5) hot = hot == 0 ? 1 : 0;
            hour++;
        }
    }

    static int worth(int[] j) {
        switch (j[K]) {
            case 0: return j[TIGHT];
            case 1: return j[TIGHT] + 3;
            case 2: return 40 - j[TIGHT];
            case 3: return j[TIGHT] * 2 + 6;
            case 4: return 34 - j[TIGHT];
            default: return 1;
        }
    }

    static boolean isOf(int kind, int of) {
        return of == kind || of == 0 || kind == 3 && of == 1 || kind == 4 && of == 2;
    }

    /** What a TEXT without FAULT gives: its words are split at every sign, and every level cuts the row at its own. */
    static final class Value {
        private final String s;
        private final int[] names;
        private final String letters;

        Value(String text, int... names) {
            String trimmed = text.trim();
            String key = trimmed.startsWith("leak") ? "leak" : trimmed.startsWith("fee") ? "fee" : "fine";
            letters = key.equals("leak") ? "gra" : key.equals("fee") ? "df" : "ts";
            s = trimmed.substring(key.length());
            this.names = names;
        }

        int all() {
            return of(s, 0);
        }

        private static final String[] LEVELS = {"|", "&", "<=>", "+-", "*/"};

        /** Cut at the last sign of this level that is in no brackets: what stands ahead of it is on its left. */
        private int of(String part, int level) {
            if (level == 5) return piece(part.trim());
            int open = 0;
            for (int i = part.length() - 1; i >= 0; i--) {
                char c = part.charAt(i);
                if (c == ')') open++;
                if (c == '(') open--;
                if (open != 0 || LEVELS[level].indexOf(c) < 0) continue;
                int l = of(part.substring(0, i), level), r = of(part.substring(i + 1), level + 1);
                switch (c) {
                    case '|': return l == 0 && r == 0 ? 0 : 1;
                    case '&': return l == 0 || r == 0 ? 0 : 1;
                    case '<': return l < r ? 1 : 0;
                    case '=': return l == r ? 1 : 0;
                    case '>': return l > r ? 1 : 0;
                    case '+': return (int) ((long) l + r);
                    case '-': return (int) ((long) l - r);
                    case '*': return (int) ((long) l * r);
                    default: return r == 0 ? 0 : (int) ((long) l / r);
                }
            }
            return of(part, level + 1);
        }

        private int piece(String p) {
            if (p.startsWith("!")) return piece(p.substring(1).trim()) == 0 ? 1 : 0;
            if (p.startsWith("(")) return of(p.substring(1, p.length() - 1), 0);
            int name = letters.indexOf(p);
            return name >= 0 ? names[name] : Integer.parseInt(p);
        }
    }

    /** The place of the FAULT, or -1: a row of brackets that are open, and whether a PIECE is due or was. */
    static int fault(String s) {
        int at = 0;
        String key = null;
        boolean due = true, wordAhead = false;
        // of each bracket: whether a test sign stands in it since the last | or &, and how many ! are open at it
        List<Boolean> tested = new ArrayList<>(List.of(false));
        List<Integer> notsAt = new ArrayList<>(List.of(0));
        int nots = 0;
        while (at < s.length()) {
            char c = s.charAt(at);
            if (c == ' ') {
                at++;
                wordAhead = false;
                continue;
            }
            int end = at + 1;
            boolean letters = c >= 'a' && c <= 'z', digits = c >= '0' && c <= '9';
            while (end < s.length() && letters && s.charAt(end) >= 'a' && s.charAt(end) <= 'z') end++;
            while (end < s.length() && digits && s.charAt(end) >= '0' && s.charAt(end) <= '9') end++;
            String word = s.substring(at, end);
            int top = tested.size() - 1;
            if ((letters || digits) && wordAhead) return at;
            if (key == null) {
                if (!Arrays.asList("leak", "fee", "fine").contains(word)) return at;
                key = word;
            } else if (due) {
                String names = key.equals("leak") ? "gra" : key.equals("fee") ? "df" : "ts";
                if (c == '!') {
                    if (++nots > 8) return at;
                } else if (c == '(') {
                    if (tested.size() > 8) return at;
                    tested.add(false);
                    notsAt.add(nots);
                } else if (digits && word.length() <= 4 || letters && word.length() == 1 && names.contains(word)) {
                    due = false;
                    nots = notsAt.get(top);
                } else {
                    return at;
                }
            } else if (c == ')' && top > 0) {
                tested.remove(top);
                notsAt.remove(top);
                nots = notsAt.get(top - 1);
            } else if ("+-*/".indexOf(c) >= 0) {
                due = true;
            } else if ("|&".indexOf(c) >= 0) {
                due = true;
                tested.set(top, false);
            } else if ("<=>".indexOf(c) >= 0 && !tested.get(top)) {
                due = true;
                tested.set(top, true);
            } else {
                return at;
            }
            wordAhead = letters || digits;
            at = end;
        }
        return due || tested.size() > 1 ? s.length() : -1;
    }

    World now = new World();
    World image;
    String tape = "";
    /** Rows of places, null where they are MISSING; of a place null is NO NUMBER. */
    final Integer[][] rows = new Integer[4][];
    final int[] sorts = new int[4];
    final Object[] slots = new Object[5];
    final List<Integer> waiting = new ArrayList<>();

    private boolean no(int joint) {
        return joint < 0 || joint >= now.joints.size();
    }

    private static boolean out(int v, int low, int high) {
        return v < low || v > high;
    }

    int joint(int kind, int tight, int ring, int high) {
        if (out(kind, 0, 5) || out(tight, 0, 40) || out(ring, 0, 40) || out(high, 0, 9)) return BAD;
        if (now.joints.size() == 8) return FULL;
        now.joints.add(new int[] {kind, tight, ring, 0, 0, 0, high, 0});
        return now.joints.size() - 1;
    }

    int told(int joint, int what) {
        if (no(joint) || out(what, 0, 12)) return BAD;
        int[] j = now.joints.get(joint);
        if (what < 8) return j[what];
        if (what == 8) return now.grip(j);
        if (what == 9) return now.leaks(j);
        if (what == 10) return now.bears(j);
        return what == 11 ? now.hangs(joint) : worth(j);
    }

    int as(int joint, int kind) {
        if (no(joint) || out(kind, 0, 5)) return BAD;
        return isOf(now.joints.get(joint)[K], kind) ? now.joints.get(joint)[TIGHT] : KIND;
    }

    int turns(int joint, int kind) {
        if (no(joint) || out(kind, 0, 5)) return BAD;
        int was = now.joints.get(joint)[K];
        now.joints.get(joint)[K] = kind;
        return was;
    }

    int set(int joint, int what, int v) {
        if (no(joint) || out(what, 2, 6) || out(v, 0, what == 2 ? 40 : 9)) return BAD;
        int was = now.joints.get(joint)[what];
        now.joints.get(joint)[what] = v;
        return was;
    }

    int turn(int joint, int n) {
        if (no(joint) || out(n, -9, 9) || n == 0) return BAD;
        int[] j = now.joints.get(joint);
        for (int i = 0; i < Math.abs(n); i++) {
            if (n < 0) {
                if (j[TIGHT] > 0) j[TIGHT]--;
                continue;
            }
            if (j[TIGHT] < 40) j[TIGHT]++;
            int above = j[TIGHT] - now.bears(j);
            if (above <= 0) continue;
            if (now.draw() % 100 < above * 10) {
                j[K] = 5;
                now.cracks++;
            }
        }
        return j[TIGHT];
    }

    int rule(int what, int v) {
        if (out(what, 0, 2) || out(v, 0, new int[] {1, 100, 9999}[what])) return BAD;
        int[] was = {now.hot, now.shake, now.pot};
        if (what == 0) now.hot = v;
        if (what == 1) now.shake = v;
        if (what == 2) now.pot = v;
        return was[what];
    }

    int empty() {
        int was = now.in;
        now.in = 0;
        return was;
    }

    int deal(int n) {
        if (out(n, 1, 8)) return BAD;
        int came = 0;
        while (came < n && now.joints.size() < 8) {
            int[] j = {now.draw() % 6, now.draw() % 20, now.draw() % 30, 0, 0, 0, now.draw() % 10, 0};
            now.joints.add(j);
            came++;
        }
        return came;
    }

    int seed(int v) {
        int was = now.z;
        now.z = v;
        return was;
    }

    int hours(int n) {
        if (out(n, 1, 100)) return BAD;
        int was = now.drops;
        for (int i = 0; i < n && now.hour < 9999; i++) now.anHour();
        return now.drops - was;
    }

    int sink(int what) {
        if (out(what, 0, 8)) return BAD;
        int set = 0;
        for (int i = 0; i < now.joints.size(); i++) if (now.joints.get(i)[K] == 5) set += 1 << i;
        return new int[] {now.drops, now.in, now.flood, now.cracks, now.shaken, now.hot, now.allLeak(), set,
            now.allTight()}[what];
    }

    int seen(int joint) {
        if (no(joint)) return BAD;
        int all = 0;
        for (int i = 0; i < now.joints.size(); i++) if (now.hangs(i) == joint) all += now.leaks(now.joints.get(i));
        return all;
    }

    int from(int joint) {
        if (no(joint)) return BAD;
        int set = 0;
        for (int i = 0; i < now.joints.size(); i++) if (now.hangs(i) == joint) set += 1 << i;
        return set;
    }

    /** Of values the least's number (counted from start), or the least. */
    private static int pick(int what, int start, List<Integer> values) {
        int best = 0;
        for (int i = 0; i < values.size(); i++) if (values.get(i) < values.get(best)) best = i;
        return what == 0 ? start + best : values.get(best);
    }

    int quarter(int joint, int what) {
        if (no(joint) || out(what, 0, 1)) return BAD;
        List<Integer> all = new ArrayList<>();
        for (int n = -9; n <= 9; n++) {
            World w = now.twin();
            w.joints.get(joint)[TIGHT] = Math.max(0, Math.min(40, w.joints.get(joint)[TIGHT] + n));
            all.add(w.allLeak());
        }
        return pick(what, -9, all);
    }

    int behind(int n, int what) {
        if (out(n, 0, 100) || out(what, 0, 2 + now.joints.size())) return BAD;
        World w = now.twin().on(n);
        if (what == 0) return w.drops;
        if (what == 1) return w.flood;
        return what == 2 ? w.in : w.leaks(w.joints.get(what - 3));
    }

    int full() {
        World w = now.twin();
        for (int h = 0; h <= 200; h++) {
            if (w.in >= w.pot) return h;
            w.anHour();
        }
        return NONE;
    }

    int shut(int joint) {
        if (no(joint)) return BAD;
        World w = now.twin();
        for (int h = 0; h <= 200; h++) {
            if (w.leaks(w.joints.get(joint)) == 0) return h;
            w.anHour();
        }
        return NONE;
    }

    int mend(int joint, int n, int what) {
        if (no(joint) || out(n, 1, 60) || out(what, 0, 1)) return BAD;
        List<Integer> all = new ArrayList<>();
        for (int way = 0; way < 4; way++) {
            World w = now.twin();
            int[] j = w.joints.get(joint);
            j[new int[] {RING, DIRT, SLANT, TAPE}[way]] = way < 3 ? 0 : j[TAPE] == 9 ? 9 : j[TAPE] + 1;
            all.add(w.on(n).drops);
        }
        return pick(what, 0, all);
    }

    int first(int n, int what) {
        if (out(n, 1, 60) || out(what, 0, 1)) return BAD;
        if (now.joints.isEmpty()) return NONE;
        List<Integer> all = new ArrayList<>();
        for (int i = 0; i < now.joints.size(); i++) {
            World w = now.twin();
            if (w.joints.get(i)[TIGHT] < 40) w.joints.get(i)[TIGHT]++;
            all.add(w.on(n).drops);
        }
        return pick(what, 0, all);
    }

    int becomes(int joint, int n, int what) {
        if (no(joint) || out(n, 1, 60) || out(what, 0, 1)) return BAD;
        List<Integer> all = new ArrayList<>();
        for (int kind = 0; kind < 6; kind++) {
            World w = now.twin();
            w.joints.get(joint)[K] = kind;
            all.add(w.on(n).drops);
        }
        return pick(what, 0, all);
    }

    int loose(int n, int what) {
        if (out(n, 1, 60) || out(what, 0, 1)) return BAD;
        if (now.joints.isEmpty()) return NONE;
        List<Integer> all = new ArrayList<>();
        for (int i = 0; i < now.joints.size(); i++) {
            World w = now.twin();
            if (w.joints.get(i)[TIGHT] > 0) w.joints.get(i)[TIGHT]--;
            all.add(w.on(n).allTight());
        }
        return pick(what, 0, all);
    }

    int whose(int sheet, int what) {
        if (out(sheet, 0, 3) || out(what, 0, 1)) return BAD;
        if (rows[sheet] == null) return NOTHING;
        if (now.joints.isEmpty()) return NONE;
        List<Integer> all = new ArrayList<>();
        for (int i = 0; i < now.joints.size(); i++) {
            int apart = 0;
            for (int k = 0; k < rows[sheet].length; k++) {
                World w = now.twin().on(k);
                if (rows[sheet][k] != null) apart += Math.abs(w.leaks(w.joints.get(i)) - rows[sheet][k]);
            }
            all.add(apart);
        }
        return pick(what, 0, all);
    }

    int fee() {
        int text = now.last("fee");
        return text < 0 ? now.drops : new Value(now.texts.get(text), now.drops, now.flood).all();
    }

    int fine(int joint) {
        if (no(joint)) return BAD;
        int[] j = now.joints.get(joint);
        int text = now.last("fine");
        return text < 0 ? j[TIGHT] : new Value(now.texts.get(text), j[TIGHT], j[SWOLLEN]).all();
    }

    int feed(int a, int b, int c) {
        if (tape.length() + 12 > 96) return FULL;
        for (int v : new int[] {a, b, c}) {
            tape += "" + (char) (v >>> 24) + (char) (v >> 16 & 255) + (char) (v >> 8 & 255) + (char) (v & 255);
        }
        return tape.length();
    }

    int trim(int n) {
        if (out(n, 0, tape.length())) return BAD;
        tape = tape.substring(0, n);
        return n;
    }

    int text() {
        String read = tape;
        tape = "";
        int fault = fault(read);
        if (fault >= 0) return -100 - fault;
        if (now.texts.size() == 14) return FULL;
        now.texts.add(read);
        return now.texts.size() - 1;
    }

    int textTold(int text, int what) {
        if (out(text, 0, now.texts.size() - 1) || out(what, 0, 1)) return BAD;
        String s = now.texts.get(text).trim();
        if (what == 0) return s.startsWith("leak") ? 0 : s.startsWith("fee") ? 1 : 2;
        int words = 0;
        for (String word : s.split("[^a-z0-9]+")) if (!word.isEmpty()) words++;
        return words - 1;
    }

    int why(int key) {
        if (out(key, 0, 2)) return BAD;
        int last = now.last(new String[] {"leak", "fee", "fine"}[key]);
        return last < 0 ? NONE : last;
    }

    int sheet(int sheet, int sort, int n) {
        if (out(sheet, 0, 3) || out(sort, -1, 1) || sort >= 0 && n > 24) return BAD;
        if (sort >= 0 && n < 0) return SIZE;
        rows[sheet] = sort < 0 ? null : new Integer[n];
        if (sort >= 0) Arrays.fill(rows[sheet], 0);
        sorts[sheet] = sort;
        return sort < 0 ? 0 : n;
    }

    int mark(int sheet, int place, int v) {
        if (out(sheet, 0, 3)) return BAD;
        if (rows[sheet] == null) return NOTHING;
        if (out(place, 0, rows[sheet].length - 1)) return INDEX;
        if (sorts[sheet] == 0 && v == NONE) return KIND;
        if (sorts[sheet] == 1 && v != NONE && out(v, -99999, 99999)) return BAD;
        rows[sheet][place] = v == NONE ? null : sorts[sheet] == 0 ? Integer.valueOf((short) v) : Integer.valueOf(v);
        return 1;
    }

    int pour(int sheet) {
        if (out(sheet, 0, 3)) return BAD;
        if (rows[sheet] == null) return NOTHING;
        int otherwise = 0;
        for (int i = 0; i < now.joints.size(); i++) {
            if (i >= rows[sheet].length || rows[sheet][i] == null) continue;
            int was = now.joints.get(i)[TIGHT];
            now.joints.get(i)[TIGHT] = Math.max(0, Math.min(40, rows[sheet][i]));
            if (was != now.joints.get(i)[TIGHT]) otherwise++;
        }
        return otherwise;
    }

    int reads(int sheet) {
        if (out(sheet, 0, 3)) return BAD;
        if (rows[sheet] == null) return NOTHING;
        for (int i = 0; i < rows[sheet].length; i++) {
            if (rows[sheet][i] == null) continue;
            if (no(i) || rows[sheet][i] != now.leaks(now.joints.get(i))) return i;
        }
        return NONE;
    }

    int copy(int from, int place, int to, int at, int many) {
        if (out(from, 0, 3) || out(to, 0, 3)) return BAD;
        if (rows[from] == null || rows[to] == null) return NOTHING;
        if (sorts[from] != sorts[to]) return KIND;
        if (place < 0 || at < 0 || many < 0) return INDEX;
        if ((long) place + many > rows[from].length || (long) at + many > rows[to].length) return INDEX;
        Integer[] was = rows[from].clone();
        for (int i = 0; i < many; i++) rows[to][at + i] = was[place + i];
        return many;
    }

    int lay(int slot, int thing, int k) {
        if (out(slot, 0, 4) || out(thing, 0, 3)) return BAD;
        if (thing == 1 && no(k) || thing == 2 && out(k, 0, 3)) return BAD;
        if (thing == 2 && rows[k] == null) return NOTHING;
        Object was = slots[slot];
        slots[slot] = thing == 0 ? null : thing == 1 ? now.joints.get(k).clone() : thing == 2 ? rows[k].clone() : (Object) k;
        return was == null ? 0 : was instanceof int[] ? 1 : was instanceof Integer[] ? 2 : 3;
    }

    int ask(int slot, int kind) {
        if (out(slot, 0, 4) || out(kind, 0, 5)) return BAD;
        if (slots[slot] == null) return NOTHING;
        return slots[slot] instanceof int[] j && isOf(j[K], kind) ? worth(j) : KIND;
    }

    int item(int slot, int place) {
        if (out(slot, 0, 4)) return BAD;
        if (slots[slot] == null) return NOTHING;
        if (!(slots[slot] instanceof Integer[])) return KIND;
        Integer[] row = (Integer[]) slots[slot];
        if (out(place, 0, row.length - 1)) return INDEX;
        return row[place] == null ? KIND : row[place];
    }

    int rest(int slot, int n) {
        if (out(slot, 0, 4)) return BAD;
        if (slots[slot] == null) return NOTHING;
        if (!(slots[slot] instanceof Integer)) return KIND;
        if (n == 0) return NO;
        return (int) ((long) (Integer) slots[slot] % n);
    }

    int tell(int v) {
        if (waiting.size() == 60) return FULL;
        waiting.add(v);
        return waiting.size();
    }

    int check(int n) {
        List<Integer> had = new ArrayList<>(waiting);
        waiting.clear();
        if (out(n, 1, 30)) return BAD;
        if (image == null) return NO;
        List<Integer> due = new ArrayList<>();
        World w = image.twin();
        for (int i = 0; i < n && w.hour < 9999; i++) {
            w.anHour();
            due.add(w.drops);
            due.add(w.allTight());
        }
        if (had.equals(due)) return 0;
        int right = 0;
        while (right < had.size() && right < due.size() && had.get(right).equals(due.get(right))) right++;
        return 1 + right;
    }

    int keep() {
        image = now.twin();
        return now.joints.size();
    }

    int back() {
        if (image == null) return NO;
        now = image.twin();
        return now.joints.size();
    }

    int count(int what) {
        if (out(what, 0, 7)) return BAD;
        return new int[] {now.joints.size(), now.hour, now.shake, now.pot, now.texts.size(), waiting.size(),
            tape.length(), now.z}[what];
    }
}
