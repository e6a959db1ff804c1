import java.lang.reflect.Method;
import java.util.function.ToIntFunction;

/**
 * LANGUAGE.md's rule 12: what a run makes is kept small. Of each call that could be dear (or two that go together),
 * as many as half a run has make far less than half the room (600,000 objects and 7.3 million elements, which are some
 * 40 million bytes).
 */
public final class RoomTest {
    private static final long ROOM = 20000000;
    private static final Due d = new Due("RoomTest");
    private static int kept;

    /** By name, since not every Java machine tells what a thread has made. */
    private static Object teller;
    private static Method tells;

    public static void main(String[] args) throws Exception {
        try {
            teller = Class.forName("java.lang.management.ManagementFactory").getMethod("getThreadMXBean").invoke(null);
            tells = Class.forName("com.sun.management.ThreadMXBean").getMethod("getThreadAllocatedBytes", long.class);
            made();
        } catch (ReflectiveOperationException | UnsupportedOperationException e) {
            System.out.println("RoomTest: this machine does not tell what is made");
            return;
        }
        fits("quarter", x -> x.quarter(7, 1));
        fits("behind", x -> x.behind(100, 10));
        fits("full", QuarterTurn::full);
        fits("shut", x -> x.shut(7));
        fits("mend", x -> x.mend(0, 60, 0));
        fits("first", x -> x.first(60, 0));
        fits("becomes", x -> x.becomes(0, 60, 0));
        fits("loose", x -> x.loose(60, 0));
        fits("whose", x -> x.whose(0, 0));
        fits("hours", x -> x.hours(100));
        fits("sheet", x -> x.sheet(1, 1, 24));
        fits("copy", x -> x.copy(0, 0, 0, 1, 23));
        fits("lay", x -> x.lay(0, 2, 0));
        fits("lay a JOINT", x -> x.lay(1, 1, 0));
        fits("keep", QuarterTurn::keep);
        fits("back", x -> x.keep() + x.back());
        fits("check", x -> x.tell(0) + x.check(30));
        fits("feed", x -> x.feed(0x66656520, 0x28282828, 0x21212121) + x.text());
        d.end();
    }

    private static long made() throws ReflectiveOperationException {
        return (Long) tells.invoke(teller, Thread.currentThread().getId());
    }

    private static void fits(String call, ToIntFunction<QuarterTurn> asked) throws ReflectiveOperationException {
        long before = made();
        QuarterTurn x = new QuarterTurn();
        for (int j = 0; j < 8; j++) x.joint(j % 6, 10 + j, 3 * j, j);
        Tapes.tell(x, "leak " + "(1+".repeat(8) + "g*r" + ")".repeat(8) + "+a/2*r-g*3+1/0");
        x.sheet(0, 0, 24);
        for (int i = 0; i < 245; i++) kept += asked.applyAsInt(x);
        long bytes = made() - before;
        d.due("245 times " + call + " make " + bytes + " bytes, which fit", bytes < ROOM / 2 ? 1 : 0, 1);
    }
}
