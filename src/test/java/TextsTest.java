/** Promises 27 to 31: feed, trim, text, textTold, why; and what TEXTS give. */
public final class TextsTest {
    private static final int BAD = -1000000001, FULL = -1000000003, NONE = -1000000005;
    private static final Due d = new Due("TextsTest");

    public static void main(String[] args) {
        feed();
        trim();
        bytes();
        text();
        faults();
        ends();
        depths();
        values();
        names();
        numbersAndWords();
        wraps();
        textTold();
        why();
        longTexts();
        d.end();
    }

    private static String times(String text, int n) {
        StringBuilder all = new StringBuilder();
        for (int i = 0; i < n; i++) all.append(text);
        return all.toString();
    }

    private static void fault(String text, int place) {
        QuarterTurn x = new QuarterTurn();
        d.due("text \"" + text + "\"", Tapes.tell(x, text), -100 - place);
        d.due("used up \"" + text + "\"", x.count(6), 0);
        d.due("no text \"" + text + "\"", x.count(4), 0);
    }

    private static void fits(String text) {
        QuarterTurn x = new QuarterTurn();
        d.due("text \"" + text + "\"", Tapes.tell(x, text), 0);
        d.due("used up \"" + text + "\"", x.count(6), 0);
        d.due("a text \"" + text + "\"", x.count(4), 1);
    }

    private static void value(String e, int want) {
        QuarterTurn x = new QuarterTurn();
        d.due("text \"fee " + e + "\"", Tapes.tell(x, "fee " + e), 0);
        d.due("value of \"" + e + "\"", x.fee(), want);
    }

    static void feed() {
        QuarterTurn x = new QuarterTurn();
        for (int i = 1; i <= 8; i++) d.due("feed", x.feed(i, i, i), 12 * i);
        d.due("feed, full", x.feed(0, 0, 0), FULL);
        d.due("bytes", x.count(6), 96);
        x.trim(85);
        d.due("feed, one too many", x.feed(0, 0, 0), FULL);
        d.due("bytes", x.count(6), 85);
        x.trim(84);
        d.due("feed, just so", x.feed(0, 0, 0), 96);
        x.text();
        d.due("bytes", x.count(6), 0);
        d.due("feed", x.feed(0, 0, 0), 12);
    }

    static void trim() {
        QuarterTurn x = new QuarterTurn();
        d.due("trim none", x.trim(0), 0);
        d.due("trim, too much", x.trim(1), BAD);
        x.feed(1, 2, 3);
        d.due("trim, too much", x.trim(13), BAD);
        d.due("trim, below 0", x.trim(-1), BAD);
        d.due("trim, far too much", x.trim(Integer.MAX_VALUE), BAD);
        d.due("bytes", x.count(6), 12);
        d.due("trim all", x.trim(12), 12);
        d.due("trim", x.trim(5), 5);
        d.due("bytes", x.count(6), 5);
        d.due("trim, gone", x.trim(6), BAD);
        d.due("trim to none", x.trim(0), 0);
        d.due("bytes", x.count(6), 0);
    }

    static void bytes() {
        // the highest byte first: "fee " "9876" "    "
        QuarterTurn x = new QuarterTurn();
        x.feed(0x66656520, 0x39383736, 0x20202020);
        d.due("text", x.text(), 0);
        d.due("fee", x.fee(), 9876);
        // trimmed, then gone on with
        x.feed(0x66656520, 0x39383736, 0x20202020);
        x.trim(5);
        x.feed(0x2b312020, 0x20202020, 0x20202020);
        d.due("text", x.text(), 1);
        d.due("fee", x.fee(), 10);
        // bytes above 127 are signs by themselves
        x.feed(0x666565ff, 0xff393837, 0x20202020);
        d.due("text", x.text(), -103);
        x.feed(0x66656520, 0x39ff3837, 0x20202020);
        d.due("text", x.text(), -105);
        x.feed(0xffffffff, -1, -1);
        d.due("text", x.text(), -100);
        x.feed(0, 0, 0);
        d.due("text", x.text(), -100);
    }

    static void text() {
        QuarterTurn x = new QuarterTurn();
        for (int i = 0; i < 14; i++) {
            d.due("text", Tapes.tell(x, i % 2 == 0 ? "fee " + i : "fine t+" + i), i);
            d.due("texts", x.count(4), i + 1);
        }
        d.due("a fifteenth", Tapes.tell(x, "fee 99"), FULL);
        d.due("used up", x.count(6), 0);
        d.due("texts", x.count(4), 14);
        d.due("fee", x.fee(), 12);
        x.joint(0, 10, 0, 0);
        d.due("the fourteenth", x.fine(0), 23);
        d.due("the fourteenth", x.why(2), 13);
        d.due("a fault stands first", Tapes.tell(x, "fee +"), -104);
        d.due("texts", x.count(4), 14);
        // no TEXT changes where the tape is at FAULT
        QuarterTurn y = new QuarterTurn();
        Tapes.tell(y, "fee 7");
        Tapes.tell(y, "fee 8 8");
        d.due("fee", y.fee(), 7);
        Tapes.tell(y, "fee 8 +");
        d.due("fee", y.fee(), 7);
        d.due("texts", y.count(4), 1);
        d.due("empty tape", y.text(), -100);
    }

    static void faults() {
        fault("", 0);
        fault("leek g", 0);
        fault("lea g", 0);
        fault("leakg", 0);
        fault("fees d", 0);
        fault("leakz", 0);
        fault("leaka", 0);
        fault("fee dz", 4);
        fault("fee da", 4);
        fault("fee 1" + (char) ('9' + 1), 5);
        fault("fee d" + (char) ('a' - 1), 5);
        fault("fee d" + (char) ('z' + 1), 5);
        fault("Leak g", 0);
        fault("  leek g", 2);
        fault("5", 0);
        fault("(fee d)", 0);
        fault("fee fee", 4);
        fault("fee leak", 4);
        fault("fee x", 4);
        fault("fee dd", 4);
        fault("fee d d", 6);
        fault("fee d 5", 6);
        fault("fee 5 d", 6);
        fault("fee 5d", 5);
        fault("fee d5", 5);
        fault("fee5", 3);
        fault("fee5+", 3);
        fault("leak12345", 4);
        fault("fee 12345", 4);
        fault("fee 00001", 4);
        fault("fee d + 10000 + x", 8);
        fault("fee d + + f", 8);
        fault("fee + d", 4);
        fault("fee - d", 4);
        fault("fee d + * f", 8);
        fault("fee d)", 5);
        fault("fee (d))", 7);
        fault("fee ()", 5);
        fault("fee (d", 6);
        fault("fee (d d)", 7);
        fault("fee d < f < d", 10);
        fault("fee d = f > d", 10);
        fault("fee (d < f = 3)", 11);
        fault("fee d == f", 7);
        fault("fee d <= f", 7);
        fault("fee d && f", 7);
        fault("fee d || f", 7);
        fault("fee d ! f", 6);
        fault("fee d (f)", 6);
        fault("fee (d)(f)", 7);
        fault("fee (d)f", 7);
        fault("fee )", 4);
        fault("fee !)", 5);
        fault("fee d % f", 6);
        fault("fee d, f", 5);
        fault("fee\td", 3);
        fault("fee d\n", 5);
        fault("fee D", 4);
        fault("fee g", 4);
        fault("fee t", 4);
        fault("leak d", 5);
        fault("leak s", 5);
        fault("fine g", 5);
        fault("fine d", 5);
        fault("leak g + f", 9);
        fault("fee d _ 3", 6);
        fits("fee(d)");
        fits("fee(5)");
        fits("fee!d");
        fits("   fee    d   +   f   ");
        fits("fee d+f*3-(2/1)|!d&f<3");
        fits("fee 0000");
        fits("fee 9999");
        fits("fee d<f&d>f|d=f");
        fits("fee (d<f)<(d>f)");
        fits("fee d*!f");
        fits("leak g+r*a");
        fits("fine t+s");
    }

    static void ends() {
        fault("   ", 3);
        fault("fee", 3);
        fault("fee  ", 5);
        fault("fee d +", 7);
        fault("fee d + ", 8);
        fault("fee (d", 6);
        fault("fee (d ", 7);
        fault("fee !", 5);
        fault("fee (", 5);
        fault("fee d <", 7);
        fault("f", 0);
        fault("fe", 0);
        fault("leak " + times("(", 8), 13);
    }

    static void depths() {
        fits("fee " + times("(", 8) + "d" + times(")", 8));
        fault("fee " + times("(", 9) + "d" + times(")", 9), 12);
        fits("fee " + times("!", 8) + "d");
        fault("fee " + times("!", 9) + "d", 12);
        fits("fee " + times("!(", 8) + "d" + times(")", 8));
        fault("fee " + times("!(", 8) + "!d" + times(")", 8), 20);
        fault("fee " + times("!(", 8) + "(d)" + times(")", 8), 20);
        fits("fee " + times("(", 8) + times("!", 8) + "d" + times(")", 8));
        fits("fee " + times("!", 8) + times("(", 8) + "d" + times(")", 8));
        // only those that are open within others are counted
        fits("fee " + times("(d)+", 9) + "d");
        fits("fee " + times("!d+", 12) + "d");
        fits("fee " + times("!", 8) + "d+" + times("!", 8) + "d");
        fits("fee " + times("(", 8) + "d)+(d" + times(")", 8));
        fault("fee " + times("(", 8) + "d)+((d" + times(")", 9), 16);
        fits("fee " + times("!", 7) + "(!d+!d)");
        fault("fee " + times("!", 7) + "(!d+!!d)", 16);
        fits("fee " + times("!", 7) + "(d)+" + times("!", 8) + "d");
    }

    static void values() {
        value("7", 7);
        value("0042", 42);
        value("2+3*4", 14);
        value("(2+3)*4", 20);
        value("20-5-3", 12);
        value("20-(5-3)", 18);
        value("20/2/5", 2);
        value("20/2*5", 50);
        value("2*7/3", 4);
        value("7/3*2", 4);
        value("7/2", 3);
        value("(0-7)/2", -3);
        value("7/(0-2)", -3);
        value("7/0", 0);
        value("(0-7)/0*3+1", 1);
        value("0/0", 0);
        value("1<2", 1);
        value("2<1", 0);
        value("2<2", 0);
        value("2=2", 1);
        value("2=3", 0);
        value("3>2", 1);
        value("2>2", 0);
        value("2>3", 0);
        value("1+1<3", 1);
        value("1+(1<3)", 2);
        value("5&3", 1);
        value("5&0", 0);
        value("0&5", 0);
        value("0&0", 0);
        value("5|3", 1);
        value("0|3", 1);
        value("3|0", 1);
        value("0|0", 0);
        value("1|0&0", 1);
        value("(1|0)&0", 0);
        value("0&0|1", 1);
        value("1<2&3<4", 1);
        value("1<2&4<3", 0);
        value("4<3|3<4", 1);
        value("2&2=2", 1);
        value("(2&2)=2", 0);
        value("!0", 1);
        value("!7", 0);
        value("!!7", 1);
        value("!0+1", 2);
        value("!(0+1)", 0);
        value("!5*3", 0);
        value("3*!0", 3);
        value("9-!1", 9);
        value("1|2|0", 1);
        value("7&8&9", 1);
        value("7&0&9", 0);
        value("(0-1)&(0-2)", 1);
        value("(0-1)<0", 1);
        value("0>(0-1)", 1);
        value("((((((((1)+1)+1)+1)+1)+1)+1)+1)", 8);
        value("1+(2*(3+(4*(5+(6*(7+(8*2)))))))", 1 + 2 * (3 + 4 * (5 + 6 * (7 + 16))));
    }

    static void names() {
        QuarterTurn x = new QuarterTurn();
        x.rule(1, 0);
        x.rule(2, 30);
        x.joint(0, 13, 6, 0);
        x.set(0, 5, 4);
        Tapes.tell(x, "leak g");
        d.due("GRIP", x.told(0, 9), 15);
        Tapes.tell(x, "leak r");
        d.due("RING", x.told(0, 9), 6);
        Tapes.tell(x, "leak a");
        d.due("TAPE", x.told(0, 9), 4);
        Tapes.tell(x, "leak g * r + a");
        d.due("all", x.told(0, 9), 94);
        Tapes.tell(x, "leak g * r + a + 6");
        d.due("99 at most", x.told(0, 9), 99);
        Tapes.tell(x, "leak r - g");
        d.due("0 at least", x.told(0, 9), 0);
        x.rule(0, 1);
        Tapes.tell(x, "leak g");
        d.due("GRIP, hot", x.told(0, 9), 13);
        d.due("an hour by the text", x.hours(1), 13);
        Tapes.tell(x, "leak 3");
        x.hours(1);
        d.due("swells by the text", x.told(0, 9), 2);
        x.turns(0, 5);
        d.due("cracked", x.told(0, 9), 60);
        x.hours(1);
        Tapes.tell(x, "fee d");
        d.due("DROPS", x.fee(), 76);
        Tapes.tell(x, "fee f");
        d.due("FLOOD", x.fee(), 46);
        Tapes.tell(x, "fine t");
        d.due("TIGHT", x.fine(0), 13);
        Tapes.tell(x, "fine s");
        d.due("SWOLLEN", x.fine(0), 1);
    }

    static void numbersAndWords() {
        QuarterTurn x = new QuarterTurn();
        x.joint(5, 0, 0, 0);
        x.hours(1);
        Tapes.tell(x, "fee 0");
        d.due("a number, no name", x.fee(), 0);
        Tapes.tell(x, "fee 1");
        d.due("a number, no name", x.fee(), 1);
        Tapes.tell(x, "fee d");
        d.due("a name", x.fee(), 60);
        d.due("a FAULT at a word", Tapes.tell(x, "fee d d"), -106);
        d.due("a word right at the start then", Tapes.tell(x, "fee f"), 3);
        d.due("a word right at the start of the end", Tapes.tell(x, "fee"), -103);
        d.due("a word right at the start then", Tapes.tell(x, "fee f"), 4);
    }

    static void wraps() {
        value("9999*9999", 99980001);
        value("9999*9999*9999", 9999 * 9999 * 9999);
        value("9999*9999*22+9999*9999", 9999 * 9999 * 22 + 9999 * 9999);
        // the least int by -1: 2048 * 1024 * 1024 is it
        value("2048*1024*1024", Integer.MIN_VALUE);
        value("2048*1024*1024/(0-1)", Integer.MIN_VALUE);
        value("2048*1024*1024-1", Integer.MAX_VALUE);
        value("0-2048*1024*1024", Integer.MIN_VALUE);
        value("2048*1024*1024<0", 1);
    }

    static void textTold() {
        QuarterTurn x = new QuarterTurn();
        Tapes.tell(x, "fine t");
        Tapes.tell(x, "leak !(g+5)*(r-12)/a&3|a=0");
        Tapes.tell(x, "fee 7");
        int[] keys = {2, 0, 1};
        int[] pieces = {1, 8, 1};
        for (int i = 0; i < 3; i++) {
            d.due("key", x.textTold(i, 0), keys[i]);
            d.due("numbers and names", x.textTold(i, 1), pieces[i]);
            d.due("what", x.textTold(i, 2), BAD);
            d.due("what", x.textTold(i, -1), BAD);
        }
        for (int text : new int[] {-1, 3, 14, Integer.MAX_VALUE, Integer.MIN_VALUE}) {
            d.due("no text", x.textTold(text, 0), BAD);
            d.due("no text", x.textTold(text, 1), BAD);
        }
    }

    static void why() {
        QuarterTurn x = new QuarterTurn();
        for (int key = 0; key < 3; key++) d.due("none yet", x.why(key), NONE);
        Tapes.tell(x, "fee 1");
        Tapes.tell(x, "leak 2");
        Tapes.tell(x, "fee 3");
        Tapes.tell(x, "fee 4 4");
        int[] due = {1, 2, NONE};
        for (int key = 0; key < 3; key++) d.due("why(" + key + ")", x.why(key), due[key]);
        d.due("fee by the last", x.fee(), 3);
        for (int key : new int[] {-1, 3, Integer.MAX_VALUE}) d.due("no key", x.why(key), BAD);
    }

    static void longTexts() {
        String deep = "fee " + times("(0|1&2<3+4*", 8);
        String text = "fee " + times("(1|1&1<1+1*", 7) + "7" + times(")", 7);
        d.due("it has room", text.length() <= 96 && deep.length() <= 96 ? 1 : 0, 1);
        QuarterTurn x = new QuarterTurn();
        d.due("deep", Tapes.tell(x, text), 0);
        d.due("its value", x.fee(), 1);
        d.due("its pieces", x.textTold(0, 1), 36);
        d.due("an open end", Tapes.tell(x, deep), -100 - deep.length());
        String row = "fee " + times("1+", 45) + "1 ";
        d.due("96 bytes", Tapes.tell(x, row), 1);
        d.due("its value", x.fee(), 46);
        d.due("its pieces", x.textTold(1, 1), 46);
        d.due("96 blanks", Tapes.tell(x, times(" ", 96)), -196);
        d.due("a fault at the end", Tapes.tell(x, "fee " + times("1+", 46)), -196);
    }
}
