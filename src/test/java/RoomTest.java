import java.lang.management.ManagementFactory;

/** Calls of one run share one room: the dearest calls, over and over, take next to none of it. */
public final class RoomTest {
    private static final Due DUE = new Due();
    private static final int CALLS = 120;
    /** The room is some 600,000 objects and 7.3 million fields and elements for 512 calls. */
    private static final long MOST_BYTES = 2_000_000L;

    private static final com.sun.management.ThreadMXBean THREADS =
            (com.sun.management.ThreadMXBean) ManagementFactory.getThreadMXBean();

    public static void main(String[] args) {
        String mixed = "cups 6;law 2;pour 0 1 2 3 4 5";
        takesLittle(20, "worlds by law", mixed, x -> x.law(1) + x.worlds(1) + x.law(2)
                + x.worlds(0));
        takesLittle(21, "world", mixed, x -> x.world(719, 5));
        takesLittle(26, "next", mixed, x -> x.next(15));
        takesLittle(27, "fewest", "cups 4;law 2;pour 0 1 2 3;sort 0 2 2 0;sort 1 1 0 2;"
                + "sort 2 2 2 1;sort 3 0 1 1", x -> x.fewest(7));
        takesLittle(28, "apart", mixed, x -> x.apart());
        takesLittle(29, "marks", mixed, x -> x.marks(7));
        takesLittle(32, "best", mixed + ";guest 5 3 9;guest 0 3 8", x -> x.best(5));
        takesLittle(39, "stairs", mixed, x -> x.stairs());
        takesLittle(43, "image and back", mixed, x -> x.image() + x.back());
        takesLittle(19, "stair that is none", mixed, x -> x.feed('l') + x.stair());
        takesLittle(2, "row", mixed, x -> x.row(7, 3, 40));
        tellersTakeLittle(mixed);
        handingsTakeLittle(mixed);
        DUE.end();
    }

    private static void takesLittle(int promise, String word, String tray, Due.Call call) {
        takesLittle(promise, word, Due.tray(tray), call);
    }

    private static void takesLittle(int promise, String word, TheOneWithout x, Due.Call call) {
        DUE.promise(promise);
        long before = THREADS.getThreadAllocatedBytes(Thread.currentThread().getId());
        for (int i = 0; i < CALLS; i++) {
            call.on(x);
        }
        long taken = THREADS.getThreadAllocatedBytes(Thread.currentThread().getId()) - before;
        if (taken > MOST_BYTES) {
            DUE.no(word + " takes " + taken + " bytes in " + CALLS + " calls");
        }
    }

    private static void tellersTakeLittle(String mixed) {
        for (int kind = 0; kind < 6; kind++) {
            TheOneWithout x = Due.tray(mixed);
            x.teller(kind, 2);
            takesLittle(34, "tells of KIND " + kind, x, each -> each.tells(0));
            takesLittle(38, "tries of KIND " + kind, x, each -> each.tries(0) + each.forget());
        }
    }

    private static void handingsTakeLittle(String mixed) {
        for (int what = 0; what < 3; what++) {
            TheOneWithout x = Due.tray(mixed);
            Due.row(x, 0, 0, 5, 4, 3, 2, 1, 0);
            int w = what;
            takesLittle(31, "handing " + what, x, each -> each.handing(0, w));
        }
    }
}
