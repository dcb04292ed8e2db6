import com.sun.management.ThreadMXBean;
import java.lang.management.ManagementFactory;

/**
 * All calls of a run share one room (LANGUAGE.md, rule 12): a register takes its room when it is
 * made, a deed takes one small object, and what only looks takes nothing.
 */
public final class RoomTest extends Checks {
    private static final ThreadMXBean THREAD = (ThreadMXBean) ManagementFactory.getThreadMXBean();
    /** A deed has at most four fields that all deeds have, and five of its own. */
    private static final long DEED_BYTES = 64;
    /** 80 parcels of four objects each, and three rows: far below the room's 600,000 objects. */
    private static final long REGISTER_BYTES = 40000;
    /** What is only made at the first use of a class or a lambda is no part of a call. */
    private static final int WARM = 3;

    private static long bytes(Call call) {
        long before = THREAD.getCurrentThreadAllocatedBytes();
        call.make();
        return THREAD.getCurrentThreadAllocatedBytes() - before;
    }

    private static void atMost(String what, long most, Call call) {
        long least = Long.MAX_VALUE;
        for (int time = 0; time < WARM; time++) {
            least = Math.min(least, bytes(call));
        }
        if (least > most) {
            notDue(what + " takes " + least + " bytes, at most " + most + " are due");
        }
    }

    private static LandRegister busy() {
        LandRegister r = withMortgages(1, 2, 3);
        r.sell(0, 0, 0, 1, part(1, 3));
        r.split(0, 0, 30);
        r.caution(0, 10, 4);
        return r;
    }

    private static void register() {
        atMost("a register", REGISTER_BYTES, () -> new LandRegister().view(0, 0));
    }

    private static void deeds() {
        LandRegister r = busy();
        atMost("found", DEED_BYTES, () -> r.found(0, 1, 0));
        atMost("sell", DEED_BYTES, () -> r.sell(0, 11, 0, 1, part(1, 7)));
        atMost("pledge", DEED_BYTES, () -> r.pledge(0, 11, 5, 50));
        atMost("rerank", DEED_BYTES, () -> r.rerank(0, 11, 1, 3, 255));
        atMost("release", DEED_BYTES, () -> r.release(0, 11, 1));
        atMost("caution", DEED_BYTES, () -> r.caution(0, 10, 5));
        atMost("lift", DEED_BYTES, () -> r.lift(0, 10, 5));
        atMost("split", DEED_BYTES, () -> r.split(0, 11, 5));
        atMost("merge", DEED_BYTES, () -> r.merge(0, 12, 14));
    }

    private static void looks() {
        LandRegister r = busy();
        atMost("day", 0, () -> r.day());
        atMost("view", 0, () -> r.view(0, 60));
        atMost("parcel", 0, () -> r.parcel(1));
        atMost("area", 0, () -> r.area(10));
        atMost("share", 0, () -> r.share(10, 1));
        atMost("mortgage", 0, () -> r.mortgage(10, 1, 1));
        atMost("cautions", 0, () -> r.cautions(10));
        atMost("origin", 0, () -> r.origin(10, 0));
        atMost("holding", 0, () -> r.holding(0, 1));
        atMost("owed", 0, () -> r.owed(1));
        atMost("state", 0, () -> r.state(0));
    }

    public static void main(String[] args) {
        check("a new object", RoomTest::register);
        check("deeds", RoomTest::deeds);
        check("looks", RoomTest::looks);
        end("the room is as due");
    }
}
