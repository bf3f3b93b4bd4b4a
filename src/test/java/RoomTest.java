import java.lang.management.ManagementFactory;

/** All calls of a run live in one room: what calls make, counted in bytes over as many calls as an object is used for. */
public final class RoomTest {
    private static final int CALLS = 512;
    private static final int NONE = LitNextDoor.NONE;
    // A house of few rooms for calls that take no more, with as many lines of each sort as fit.
    private static final String FEW = "rooms 8;" + "pane 0 to 1 lets 50 both;pane 1 to 2 lets 50 both;pane 2 to 3 lets 50 both;pane 3 to 4 lets 50 both;"
        + "pane 4 to 5 lets 50 both;pane 5 to 6 lets 50 both;pane 6 to 7 lets 50 both;" + "lamp bright 9 oil 1;lamp bright 8 oil 2;"
        + "hole 0 to 5 lets 1 costs 1;".repeat(8) + "want 0 least 1;want 3 least 1;want 7 least 1 most 4;";

    /** A call, the number of which is told. */
    private interface Call {
        void make(LitNextDoor x, int i);
    }

    private static final com.sun.management.ThreadMXBean COUNTER =
        (com.sun.management.ThreadMXBean) ManagementFactory.getThreadMXBean();

    private RoomTest() {
    }

    public static void main(String[] args) {
        lastCall();
        if (COUNTER.isThreadAllocatedMemorySupported()) {
            made("new objects, each", 100000, 1, (x, i) -> new LitNextDoor());
            asking();
            searching();
            changing();
        }
        Check.end("RoomTest");
    }

    private static void lastCall() {
        Check.sentence("An object is used for at most 512 calls after it has been made; what later calls answer is free.");
        int feeds = (FEW.length() + 19) / 20;
        for (int last = 0; last < 5; last++) {
            LitNextDoor x = Check.built(FEW);
            for (int calls = feeds + 1; calls < CALLS - 1; calls++) {
                x.hang(calls % 8, calls % 2, calls);
            }
            switch (last) {
                case 0 -> Check.due("the 512th call, of", x.of(510 % 8, 1), 510);
                case 1 -> Check.due("the 512th call, best", x.best(0), 1 << 1 | 1 << 2 | 1 << 5 | 1 << 6);
                case 2 -> Check.due("the 512th call, feed", x.feed(0, 0, 0, 0, 0), 20);
                case 3 -> Check.due("the 512th call, count", x.count(7), 8);
                default -> Check.thrown("the 512th call, restore", IllegalStateException.class, () -> Probe.restored(x, 0));
            }
        }
    }

    /** So many bytes a call, and so many once, are the most that is borne. */
    private static void made(String told, long eachCall, long once, Call call) {
        // What a class or a call makes for itself when it is used first is none of the program's.
        LitNextDoor warm = Check.built(FEW);
        for (int i = 0; i < CALLS; i++) {
            call.make(warm, i);
        }
        LitNextDoor x = Check.built(FEW);
        long before = COUNTER.getCurrentThreadAllocatedBytes();
        for (int i = 0; i < CALLS; i++) {
            call.make(x, i);
        }
        long bytes = COUNTER.getCurrentThreadAllocatedBytes() - before;
        Check.due(told + " made " + bytes + " bytes, more than is borne", bytes <= once + CALLS * eachCall + 4096, true);
    }

    private static void asking() {
        made("count", 0, 0, (x, i) -> x.count(i % 9));
        made("fault", 0, 0, (x, i) -> x.fault(i % 2));
        made("pane", 0, 0, (x, i) -> x.pane(i % 7, i % 4));
        made("kind", 0, 0, (x, i) -> x.kind(i % 2, i / 2 % 2));
        made("next, hated, never", 0, 0, (x, i) -> x.next(x.hated(i % 8) + (x.never() & 7)));
        made("of", 0, 0, (x, i) -> x.of(i % 8, i % 3));
        made("light, by", 0, 0, (x, i) -> x.light(i % 8, i % 24 + x.by(i % 8, i % 24) % 1));
        made("dark, judge, spare, angry", 0, 0, (x, i) -> x.dark(i % 24 + (x.judge() + x.spare(0) + x.angry(0)) % 1));
        made("out, oil", 0, 0, (x, i) -> x.out(i % 8, i % 24 + x.oil() % 1));
        made("lights", 0, 0, (x, i) -> x.lights(i & 255, i >> 1 & 255));
        made("walk", 0, 0, (x, i) -> x.walk(i % 8, i / 8 % 8));
        made("rule", 0, 0, (x, i) -> x.rule(40, true, 8, i & 255));
        made("night", 0, 0, (x, i) -> x.night(i, i % 101, i % 3));
        made("upper, lower", 0, 0, (x, i) -> Check.due("no fraction", x.upper() + x.lower(), 0));
    }

    private static void searching() {
        made("best", 0, 0, (x, i) -> x.best(i % 4));
        made("gap, always, ever", 0, 0, (x, i) -> x.best((x.gap() + x.always() + x.ever()) & 3));
        made("barred", 0, 0, (x, i) -> x.barred(i % 8));
        made("bright", 0, 0, (x, i) -> x.bright(i % 2, i % 24));
        made("day", 0, 0, (x, i) -> x.day(i % 2));
        made("mixed", 0, 0, (x, i) -> x.mixed(i % 24, i % 8));
        made("grid", 100, 0, (x, i) -> x.grid(1 + i % 4, 4));
        made("hole", 100, 0, (x, i) -> x.hole(i % 8, i % 5));
        made("which", 8 * 100, 0, (x, i) -> x.which());
        made("carry", 0, 0, (x, i) -> x.carry(1 + i % 2, i % 12, 23, NONE));
        made("cost", 0, 0, (x, i) -> x.cost(i & 255));
        made("owed", 0, 0, (x, i) -> x.owed(i % 8));
        made("round", 0, 800000, (x, i) -> x.round(i % 8, NONE));
        made("look", 0, 0, (x, i) -> x.look(3 + i % 38, i % 2 == 0, i % 3));
    }

    private static void changing() {
        made("feed", 0, 0, (x, i) -> x.feed(i, i, i, i, i));
        made("house", 6000, 0, (x, i) -> x.house(0));
        made("house of lines", 6000, 0, (x, i) -> x.house(x.feed(0x64656172, 0x2037373B, 0x6465613B, 0x20202020, 0x20202020)));
        made("hang", 0, 0, (x, i) -> x.hang(i % 8, i % 3 - 1, i));
        made("tray, write", 0, 0, (x, i) -> Check.due("cut", laid(x, i).write(i % 4, 39, i), (byte) i));
        made("pour, sooner", 0, 0, (x, i) -> poured(x));
        made("image, restore", 0, 1000, (x, i) -> imaged(x, i % 3));
    }

    private static LitNextDoor laid(LitNextDoor x, int i) {
        x.tray(i % 4, 0, 40);
        return x;
    }

    private static void poured(LitNextDoor x) {
        x.tray(0, 3, 16);
        x.pour(0);
        x.sooner(0);
    }

    private static void imaged(LitNextDoor x, int i) {
        x.image(i);
        x.restore(i);
    }
}
