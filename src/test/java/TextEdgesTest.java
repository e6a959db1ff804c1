/**
 * "Terms", part 4, by its edges: what each of the 256 bytes does wherever one can stand, words that need a blank,
 * NUMBERS of one to five digits, the eighth and the ninth that are open, and how loose each sign is by each other.
 */
public final class TextEdgesTest {
    private static final int NONE = -1000000005;
    private static final String SIGNS = "|&<=>+-*/", TESTS = "<=>";
    private static final String[] KEYS = {"leak", "fee", "fine"}, NAMES = {"gra", "df", "ts"};
    private static final Due d = new Due("TextEdgesTest");

    public static void main(String[] args) {
        firstByte();
        behindTheKey();
        behindAPiece();
        behindASign();
        withinBrackets();
        behindATest();
        numbers();
        digitsAreNoSigns();
        keys();
        namesOfEachKey();
        blanks();
        openOnes();
        whatIsOpenAlone();
        looseness();
        nots();
        trueAndFalse();
        cutTowards0();
        pieces();
        theEnd();
        byteByByte();
        d.end();
    }

    private static int told(String text) {
        return Tapes.tell(new QuarterTurn(), text);
    }

    private static void is(String text, int want) {
        d.due("text \"" + text + "\"", told(text), want);
    }

    private static void fault(String text, int place) {
        is(text, -100 - place);
    }

    private static boolean letter(char c) {
        return c >= 'a' && c <= 'z';
    }

    private static boolean digit(char c) {
        return c >= '0' && c <= '9';
    }

    private static boolean in(String all, char c) {
        return all.indexOf(c) >= 0;
    }

    /** No KEY is one byte long; blanks alone end too soon. */
    static void firstByte() {
        for (char c = 0; c < 256; c++) {
            fault("" + c, c == ' ' ? 1 : 0);
            fault(" " + c, c == ' ' ? 2 : 1);
            // in front of a TEXT: of a letter the word is another one
            String text = c + "fee d";
            if (c == ' ') is(text, 0);
            else fault(text, 0);
        }
    }

    static void behindTheKey() {
        for (int key = 0; key < 3; key++) {
            int end = KEYS[key].length();
            for (char c = 0; c < 256; c++) {
                boolean goesOn = in(" (!", c), piece = digit(c) || in(NAMES[key], c);
                if (letter(c)) fault(KEYS[key] + c, 0);
                else fault(KEYS[key] + c, goesOn ? end + 1 : end);
                if (piece) is(KEYS[key] + " " + c, 0);
                else fault(KEYS[key] + " " + c, goesOn ? end + 2 : end + 1);
            }
        }
    }

    static void behindAPiece() {
        for (char c = 0; c < 256; c++) {
            if (c == ' ') is("fee d" + c, 0);
            else if (letter(c)) fault("fee d" + c, 4);
            else fault("fee d" + c, in(SIGNS, c) ? 6 : 5);
            if (c == ' ') is("fee d " + c, 0);
            else fault("fee d " + c, in(SIGNS, c) ? 7 : 6);
            if (c == ' ' || digit(c)) is("fee 1" + c, 0);
            else fault("fee 1" + c, in(SIGNS, c) ? 6 : 5);
            if (c == ' ') is("fee (d)" + c, 0);
            else fault("fee (d)" + c, in(SIGNS, c) ? 8 : 7);
        }
    }

    static void behindASign() {
        for (int s = 0; s < SIGNS.length(); s++) {
            for (char c = 0; c < 256; c++) {
                boolean goesOn = in(" (!", c);
                String text = "fee d" + SIGNS.charAt(s) + c;
                if (digit(c) || in("df", c)) is(text, 0);
                else fault(text, goesOn ? 7 : 6);
            }
        }
        for (char c = 0; c < 256; c++) {
            if (digit(c) || in("df", c)) is("fee!" + c, 0);
            else fault("fee!" + c, in(" (!", c) ? 5 : 4);
        }
    }

    static void withinBrackets() {
        for (char c = 0; c < 256; c++) {
            boolean goesOn = digit(c) || in("df (!", c);
            fault("fee(" + c, goesOn ? 5 : 4);
            if (c == ')') is("fee (d" + c, 0);
            else if (letter(c)) fault("fee (d" + c, 5);
            else fault("fee (d" + c, c == ' ' || in(SIGNS, c) ? 7 : 6);
        }
    }

    /** TEST: SUM [ sign SUM ]: one test sign, until | or & or a bracket begins another TEST. */
    static void behindATest() {
        for (int s = 0; s < 3; s++) {
            String test = "fee d" + TESTS.charAt(s) + "f";
            for (char c = 0; c < 256; c++) {
                if (c == ' ') is(test + c, 0);
                else if (letter(c)) fault(test + c, 6);
                else fault(test + c, in("|&+-*/", c) ? 8 : 7);
            }
            for (int t = 0; t < 3; t++) {
                char sign = TESTS.charAt(t);
                fault(test + sign + "d", 7);
                fault(test + "+1*2" + sign + "d", 11);
                is(test + "&d" + sign + "f", 0);
                is(test + "|d" + sign + "f", 0);
                is(test + "+(d" + sign + "f)", 0);
                is("fee (d" + TESTS.charAt(s) + "f)" + sign + "d", 0);
                fault("fee (d" + TESTS.charAt(s) + "f)" + sign + "d" + sign + "f", 11);
                fault("fee (d" + TESTS.charAt(s) + "f" + sign + "d)", 8);
            }
        }
    }

    /** 1 to 4 digits. */
    static void numbers() {
        String[] fit = {"0", "9", "00", "10", "99", "000", "007", "999", "0000", "0001", "1000", "9999"};
        for (String n : fit) {
            QuarterTurn x = new QuarterTurn();
            d.due("NUMBER " + n, Tapes.tell(x, "fee " + n), 0);
            d.due("NUMBER " + n, x.fee(), Integer.parseInt(n));
            d.due("NUMBER " + n + ": one of it", x.textTold(0, 1), 1);
            is("fee d+" + n + "*f", 0);
        }
        for (String n : new String[] {"00000", "00001", "10000", "12345", "99999", "000000", "1234567890", "4294967296"}) {
            fault("fee " + n, 4);
            fault("fee d+" + n, 6);
            fault("fee(" + n + ")", 4);
            fault("fee" + n, 3);
            fault("fee d " + n, 6);
        }
    }

    /** A NUMBER is none of the signs, though it be a sign's byte; one that is too long is none either. */
    static void digitsAreNoSigns() {
        for (char c : "()!|&<=>+-*/ dfgrats".toCharArray()) {
            for (String n : new String[] {"" + (int) c, "0" + (int) c, "00" + (int) c, "000" + (int) c, "0000" + (int) c}) {
                boolean tooLong = n.length() > 4;
                QuarterTurn x = new QuarterTurn();
                d.due("fee " + n, Tapes.tell(x, "fee " + n), tooLong ? -104 : 0);
                d.due("fee " + n, x.fee(), tooLong ? 0 : (int) c);
                fault("fee " + n + " d", tooLong ? 4 : 5 + n.length());
                fault("fee d " + n + " d", 6);
                fault("fee (d " + n, 7);
                fault("fee (d " + n + " d)", 7);
                fault("leak " + n + " g", tooLong ? 5 : 6 + n.length());
            }
        }
        // 0 is itself, not what a NAME tells
        QuarterTurn x = new QuarterTurn();
        x.joint(0, 20, 30, 0);
        x.set(0, 5, 9);
        Tapes.tell(x, "leak 0");
        d.due("leak 0", x.told(0, 9), 0);
        Tapes.tell(x, "leak 0+0");
        d.due("leak 0+0", x.told(0, 9), 0);
        Tapes.tell(x, "fine 0");
        d.due("fine 0", x.fine(0), 0);
    }

    static void keys() {
        for (String word : new String[] {"l", "le", "lea", "leaks", "leakleak", "f", "fe", "feee", "fees", "fi", "fin", "fines",
            "fene", "fie", "leek", "reak", "laek", "lean", "foe", "fed", "dee", "fire", "mine", "fend", "text", "g", "d", "t"}) {
            fault(word + " 1", 0);
            fault(" " + word + " 1", 1);
            fault(word + "(1)", 0);
        }
        for (String key : KEYS) {
            is(key + " 1", 0);
            is(key + "(1)", 0);
            is(key + "!1", 0);
            is("   " + key + "   1   ", 0);
            fault(key + " " + key, key.length() + 1);
            fault(key + " " + key + " 1", key.length() + 1);
            fault("(" + key + " 1)", 0);
            fault("!" + key + " 1", 0);
            fault("1 " + key + " 1", 0);
            fault(key.toUpperCase() + " 1", 0);
        }
    }

    static void namesOfEachKey() {
        for (int key = 0; key < 3; key++) {
            int at = KEYS[key].length() + 1;
            for (char c = 'a'; c <= 'z'; c++) {
                boolean name = in(NAMES[key], c);
                is(KEYS[key] + " " + c, name ? 0 : -100 - at);
                is(KEYS[key] + " 1+" + c, name ? 0 : -102 - at);
                fault(KEYS[key] + " " + c + c, at);
                fault(KEYS[key] + " 1+" + c + "a", at + 2);
            }
        }
    }

    static void blanks() {
        String[] words = {"fee", "d", "+", "(", "f", "<", "!", "12", ")", "&", "3"};
        for (int all = 0; all < 1 << words.length; all++) {
            StringBuilder text = new StringBuilder();
            for (int i = 0; i < words.length; i++) text.append((all >> i & 1) == 1 ? "  " : i == 1 ? " " : "").append(words[i]);
            is(text.toString(), 0);
        }
        // a word right behind another one needs one; a sign needs none
        fault("fee d1", 5);
        fault("fee 1d", 5);
        fault("fee 1dd", 5);
        fault("fee d11111", 5);
        fault("fee1", 3);
        fault("fee1d", 3);
        fault("leak12345", 4);
        fault("fee d+1f", 7);
        fault("fee d+f1", 7);
        fault("fee(d1)", 5);
        fault("fee d 1", 6);
        fault("fee d\t", 5);
        fault("fee\n1", 3);
        fault("fee" + (char) 160 + "1", 3);
        fault("fee" + (char) 0 + "1", 3);
    }

    /** The ninth ( that would be open within others, the ninth ! likewise, each by itself. */
    static void openOnes() {
        for (int n = 0; n <= 12; n++) {
            String open = "(".repeat(n), shut = ")".repeat(n), not = "!".repeat(n), both = "!(".repeat(n);
            is("fee " + open + "d" + shut, n <= 8 ? 0 : -112);
            is("fee " + not + "d", n <= 8 ? 0 : -112);
            is("fee " + both + "d" + shut, n <= 8 ? 0 : -100 - 4 - 16);
            is("fee " + "(!".repeat(n) + "d" + shut, n <= 8 ? 0 : -100 - 4 - 16);
            is("fee 1+(" + open + "d" + shut + ")", n <= 7 ? 0 : -114);
            is("fee !(" + not + "d)", n <= 7 ? 0 : -113);
            is("fee !(1&2|3<4+5*" + not + "d)", n <= 7 ? 0 : -123);
            is("fee (" + not + "d+" + not + "d)", n <= 8 ? 0 : -113);
            is("fee " + "(1+".repeat(n) + "1" + shut, n <= 8 ? 0 : -128);
            is("fee " + open + not + "d" + shut, n <= 8 ? 0 : -112);
            // as many as that are not open any more
            is("fee " + "(1)+".repeat(n) + "1", 0);
            is("fee " + "!1+".repeat(n) + "!1", 0);
            is("fee " + "!(1)+".repeat(n) + "1", 0);
        }
    }

    /** A ! is open until its PIECE ends, a ( until its ). */
    static void whatIsOpenAlone() {
        String eight = "((((((((", shut = "))))))))", nots = "!!!!!!!!";
        is("fee " + eight + "1" + shut + "+" + eight + "1" + shut, 0);
        is("fee " + nots + "1+" + nots + "1", 0);
        is("fee " + nots + "(1)*" + nots + "(1)", 0);
        is("fee " + nots + "(1+1)", 0);
        fault("fee " + nots + "(1+!1)", 15);
        is("fee " + nots + "(1)+!1", 0);
        is("fee " + eight + "1)+(1" + shut, 0);
        fault("fee " + eight + "1)+((1)" + shut, 16);
        is("fee " + eight + "1))+((1" + shut, 0);
        fault("fee " + eight + nots + "1" + shut + "+" + eight + "(", 38);
        fault("fee " + eight + "(", 12);
        fault("fee " + eight, 12);
        fault("fee " + nots, 12);
        fault("fee " + nots + "!", 12);
    }

    private static int level(char sign) {
        return sign == '|' ? 0 : sign == '&' ? 1 : in(TESTS, sign) ? 2 : in("+-", sign) ? 3 : 4;
    }

    private static int by(int a, char sign, int b) {
        switch (sign) {
            case '|': return a != 0 || b != 0 ? 1 : 0;
            case '&': return a != 0 && b != 0 ? 1 : 0;
            case '<': return a < b ? 1 : 0;
            case '=': return a == b ? 1 : 0;
            case '>': return a > b ? 1 : 0;
            case '+': return a + b;
            case '-': return a - b;
            case '*': return a * b;
            default: return b == 0 ? 0 : a / b;
        }
    }

    private static int gives(String e) {
        QuarterTurn x = new QuarterTurn();
        int answer = Tapes.tell(x, "fee " + e);
        return answer == 0 ? x.fee() : answer;
    }

    /** Two signs in a row: the tighter first; of alike ones the left first; no two tests. */
    static void looseness() {
        int[][] all = {{7, 2, 3}, {2, 2, 2}, {0, 1, 0}, {9, 3, 0}, {1, 0, 5}, {5, 9, 4}, {3, 3, 1}, {8, 5, 2}, {0, 0, 0}, {17, 4, 4}};
        for (char s : SIGNS.toCharArray()) {
            for (char t : SIGNS.toCharArray()) {
                for (int[] v : all) {
                    int left = by(by(v[0], s, v[1]), t, v[2]), right = by(v[0], s, by(v[1], t, v[2]));
                    boolean tests = level(s) == 2 && level(t) == 2;
                    int due = tests ? -107 - (v[0] > 9 ? 1 : 0) : level(t) > level(s) ? right : left;
                    String e = "" + v[0] + s + v[1] + t + v[2];
                    d.due(e, gives(e), due);
                    e = "(" + v[0] + s + v[1] + ")" + t + v[2];
                    d.due(e, gives(e), left);
                    e = "" + v[0] + s + "(" + v[1] + t + v[2] + ")";
                    d.due(e, gives(e), right);
                }
            }
        }
    }

    /** ! is of the PIECE behind it alone. */
    static void nots() {
        for (char s : SIGNS.toCharArray()) {
            for (int a = 0; a <= 2; a++) {
                for (int b = 0; b <= 2; b++) {
                    int notA = a == 0 ? 1 : 0, notB = b == 0 ? 1 : 0;
                    d.due("!" + a + s + b, gives("!" + a + s + b), by(notA, s, b));
                    d.due(a + "" + s + "!" + b, gives(a + "" + s + "!" + b), by(a, s, notB));
                    d.due("!(" + a + s + b + ")", gives("!(" + a + s + b + ")"), by(a, s, b) == 0 ? 1 : 0);
                    d.due("!!" + a + s + b, gives("!!" + a + s + b), by(1 - notA, s, b));
                }
            }
        }
    }

    /** What is not 0 is true, also what is below 0; tests, & | ! give 1 or 0. */
    static void trueAndFalse() {
        String[] truths = {"1", "2", "9999", "(0-1)", "(0-9999)", "(2048*1024*1024)"};
        for (String t : truths) {
            d.due("!" + t, gives("!" + t), 0);
            d.due("!!" + t, gives("!!" + t), 1);
            d.due(t + "&" + t, gives(t + "&" + t), 1);
            d.due(t + "&0", gives(t + "&0"), 0);
            d.due("0&" + t, gives("0&" + t), 0);
            d.due(t + "|0", gives(t + "|0"), 1);
            d.due("0|" + t, gives("0|" + t), 1);
            d.due(t + "|" + t, gives(t + "|" + t), 1);
            d.due(t + "=" + t, gives(t + "=" + t), 1);
            d.due(t + "<" + t, gives(t + "<" + t), 0);
            d.due(t + ">" + t, gives(t + ">" + t), 0);
        }
        d.due("!0", gives("!0"), 1);
        d.due("0|0", gives("0|0"), 0);
        d.due("0&0", gives("0&0"), 0);
        d.due("(0-1)<0", gives("(0-1)<0"), 1);
        d.due("(0-1)>0", gives("(0-1)>0"), 0);
        d.due("by what it is, not by the difference", gives("2048*1024*1024<2048*1024*1024-1"), 1);
        // alone each gives what it is
        d.due("7", gives("7"), 7);
        d.due("(((7)))", gives("(((7)))"), 7);
        d.due("0-7", gives("0-7"), -7);
    }

    static void cutTowards0() {
        int[][] all = {{7, 2, 3}, {-7, 2, -3}, {7, -2, -3}, {-7, -2, 3}, {1, 2, 0}, {-1, 2, 0}, {6, 3, 2}, {-6, 3, -2}, {9, 10, 0},
            {0, 5, 0}, {0, -5, 0}, {5, 0, 0}, {-5, 0, 0}, {0, 0, 0}};
        for (int[] a : all) {
            String left = a[0] < 0 ? "(0-" + -a[0] + ")" : "" + a[0], right = a[1] < 0 ? "(0-" + -a[1] + ")" : "" + a[1];
            d.due(a[0] + " / " + a[1], gives(left + "/" + right), a[2]);
        }
        d.due("the least int by -1", gives("2048*1024*1024/(0-1)"), Integer.MIN_VALUE);
        d.due("+ wraps", gives("2048*1024*1024-1+1"), Integer.MIN_VALUE);
        d.due("- wraps", gives("2048*1024*1024-1"), Integer.MAX_VALUE);
        d.due("* wraps", gives("9999*9999*9999"), 9999 * 9999 * 9999);
    }

    /** How many NUMBERS and NAMES it has. */
    static void pieces() {
        String[] texts = {"1", "(1)", "!1", "!!((1))", "1+1", "g", "g+r+a", "g*10+r*5/(a+1)", "1<2&3>4|!5", "((g))*((r))", "0-0"};
        int[] due = {1, 1, 1, 1, 2, 1, 3, 6, 5, 2, 2};
        for (int i = 0; i < texts.length; i++) {
            QuarterTurn x = new QuarterTurn();
            d.due("leak " + texts[i], Tapes.tell(x, "leak " + texts[i]), 0);
            d.due("pieces of " + texts[i], x.textTold(0, 1), due[i]);
        }
        QuarterTurn x = new QuarterTurn();
        Tapes.tell(x, "fee 1+1+1 1");
        d.due("those ahead of a FAULT are forgotten", Tapes.tell(x, "fee 1+1"), 0);
        d.due("pieces", x.textTold(0, 1), 2);
        d.due("what it gives", x.fee(), 2);
        d.due("the first NAMES again", x.why(0), NONE);
    }

    /** The end is the place behind the last byte, blanks and all. */
    static void theEnd() {
        String[] open = {"fee", "fee (", "fee !", "fee d+", "fee d<", "fee d|", "fee (d", "fee (d+f", "fee ((d)", "leak g*(r-(a)"};
        for (String text : open) {
            for (int blanks = 0; blanks <= 3; blanks++) {
                String all = text + " ".repeat(blanks);
                fault(all, all.length());
            }
        }
        fault(" ".repeat(96), 96);
        fault("fee " + "1+".repeat(46), 96);
        fault("fee " + "1+".repeat(44) + "(1+1", 96);
        is("fee " + "1+".repeat(45) + "11", 0);
        fault("fee " + "1+".repeat(45) + "1(", 95);
    }

    /** Whatever is told ahead of it: each TEXT that is cut short is at FAULT at its end, or is one, or ends within a word. */
    static void byteByByte() {
        String text = "  leak (g + 12*!r) < 9999 & (a | !!(r=30)) - 1/0  ";
        for (int n = 0; n < text.length(); n++) {
            String cut = text.substring(0, n);
            boolean inKey = n > 2 && n < 6;
            String shown = cut.trim();
            boolean one = !inKey && shown.startsWith("leak") && shown.length() > 4
                && !in("(+*!<&|=-/", shown.charAt(shown.length() - 1)) && balanced(shown);
            is(cut, one ? 0 : inKey ? -102 : -100 - n);
        }
    }

    private static boolean balanced(String text) {
        int open = 0;
        for (char c : text.toCharArray()) open += c == '(' ? 1 : c == ')' ? -1 : 0;
        return open == 0;
    }
}
