import java.lang.management.ManagementFactory;
import java.util.function.ToLongFunction;

/** All calls of a run live in one room: an object and 512 calls of any sort make little, and what is made
    does not grow with the calls. */
public final class RoomTest {
    private static final int CALLS = 480;
    private static final int TRIES = 3;
    /** Far below 7.3 million elements, and some four times what an object with all its SHEETS takes. */
    private static final long MOST_BYTES = 1000000;
    private static final long ONE_ROW = 20000;
    private static final com.sun.management.ThreadMXBean ROOM =
        (com.sun.management.ThreadMXBean) ManagementFactory.getThreadMXBean();
    private static long sum;

    private static long made() {
        return ROOM.getThreadAllocatedBytes(Thread.currentThread().getId());
    }

    private static void fill(WheelPens x) {
        Due.kit(x, "ring r 96;wheel a 24 in r;wheel b 7 on a at 3/5;pen p a 24;pen q b 9;pen s b 8;pen t b 7;");
        for (int s = 0; s < 8; s++) {
            x.draw(s, s % 4, 59);
        }
    }

    /** The least of some tries: what the machine makes for itself at a first call is not the class's. */
    private static void little(String name, ToLongFunction<WheelPens> call) {
        long leastObject = Long.MAX_VALUE;
        long leastCalls = Long.MAX_VALUE;
        for (int i = 0; i < TRIES; i++) {
            long ahead = made();
            WheelPens x = new WheelPens();
            fill(x);
            long filled = made();
            for (int k = 0; k < CALLS; k++) {
                sum += call.applyAsLong(x);
            }
            leastCalls = Math.min(leastCalls, made() - filled);
            leastObject = Math.min(leastObject, filled - ahead);
        }
        Due.due("a new object and its SHEETS are small", leastObject < MOST_BYTES, true);
        Due.due(CALLS + " calls of " + name + " make one row at most", leastCalls < ONE_ROW, true);
    }

    public static void main(String[] args) {
        little("fault", WheelPens::fault);
        little("feed", x -> x.feed(1, 2, 3, 4, 5));
        little("end", x -> x.end(0) ? 1 : 0);
        little("kit", WheelPens::kit);
        little("spin", x -> x.spin(1, 0));
        little("closes", x -> x.closes(3));
        little("arms", x -> x.arms(3));
        little("arm", x -> x.arm(3, 1, 0));
        little("lobes", x -> x.lobes(3));
        little("draw", x -> x.draw(7, 3, 59));
        little("tell", x -> x.feed(0, 0, 0, 0, 0) + x.tell(7));
        little("mix", x -> x.feed(0x61202b20, 0x62207475, 0x726e2033, 0x202d2039, 0x20632020) + x.mix(7));
        little("wipe and draw", x -> x.wipe(6) ? x.draw(6, 0, 60) : 0);
        little("about", x -> x.about(3, 2));
        little("point", x -> x.point(3, 58, 57));
        little("same", x -> x.same(3, 2));
        little("area", x -> x.area(3, 57));
        little("again", x -> x.again(3, 0));
        little("product", x -> x.product(7, 0, 1));
        little("shared", x -> x.shared(0, 1));
        little("back", x -> x.back(3));
        little("backAt", x -> x.backAt(0, 0));
        little("wrong", WheelPens::wrong);
        little("made", x -> x.feed(0x60180000, 0, 0, 0, 0) + (x.end(2) ? x.made(0, 1) : 0));
        little("madeAt", x -> x.feed(0x60180000, 0, 0, 0, 0) + (x.end(2) && x.made(0, 1) == 1 ? x.madeAt(0, 3) : 0));
        little("count", x -> x.count(3));
        little("one", x -> x.one(0, 1));
        little("selves", x -> x.again(3, 1));
        little("right", x -> x.right(3));
        little("drawnBy", x -> x.drawnBy(3));
        little("turnings", x -> x.same(3, 0));
        little("mirrors", x -> x.same(3, 1));
        Due.report();
    }
}
