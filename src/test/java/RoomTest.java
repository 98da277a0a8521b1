import com.sun.management.ThreadMXBean;
import java.lang.management.ManagementFactory;

/** All calls of a run live in one room: an object is small, and its calls make nothing new. */
public final class RoomTest {
    private static final Check check = new Check();
    private static final ThreadMXBean ROOM = (ThreadMXBean) ManagementFactory.getThreadMXBean();

    public static void main(String[] args) {
        DartHangar h = full();
        for (int i = 0; i < 3; i++) {
            allCalls(h);
            h.image(i);
        }
        long self = Thread.currentThread().getId();
        long before = ROOM.getThreadAllocatedBytes(self);
        for (int i = 0; i < 20; i++) {
            allCalls(h);
        }
        long made = ROOM.getThreadAllocatedBytes(self) - before;
        check.due(true, made < 2_000, "20 rounds of all calls make next to nothing (" + made + " bytes)");
        before = ROOM.getThreadAllocatedBytes(self);
        DartHangar one = new DartHangar();
        long room = ROOM.getThreadAllocatedBytes(self) - before;
        check.due(true, room < 20_000, "a new object is small (" + room + " bytes)");
        check.due(0, one.count(0), "count(0)");
        check.end();
    }

    private static DartHangar full() {
        DartHangar h = new DartHangar();
        h.sheet(24, 12);
        Check.way(h, "nose 1;nose 1;side 1;nose 1;nose 1;side 1;corner 2;nose 1;nose 1;corner 2;nose 1;");
        Check.way(h, "");
        for (int hand = 0; hand < 5; hand++) {
            h.hand();
            for (int i = 0; i < 4; i++) {
                h.toss(hand, 150 + 50 * i, 2 * i, 1 + i);
            }
        }
        for (int i = 0; i < 4; i++) {
            h.enter(i / 2, i, i);
        }
        h.draught(1, 200, 4);
        h.crate(50000, 50);
        h.tray(0, 3, 12);
        return h;
    }

    private static void allCalls(DartHangar h) {
        h.feed(0x70756c6c, 0x20353b20, 0x20202020, 0x20202020, 0x20202020);
        h.law(7);
        h.feed(0x70756c6c, 0x20353b20, 0x20202020, 0x20202020, 0x20202020);
        h.way(7);
        h.make(0, 6);
        h.layers(0, 0, 0);
        h.breaks(0);
        h.fold(0, 0);
        h.fly(0, 3, 200, 3, 5);
        h.at(0, 3, 200, 3, 100, 5);
        h.hoop(0, 3, 200, 3, 1000, 0, 5000);
        h.slant(0, 3, 200, true);
        h.rest(0, 3, -1);
        h.why(0, 3);
        h.reach(0, 3, 0, true);
        h.ears(0, 0, true);
        h.best(0, false);
        h.change(0, 3, 0, false, 2);
        h.mend(0, 3, 0, false);
        h.odds(0, 3, 0, 4, 1000, 0, 5000);
        h.wins(0);
        h.hours(0, 9, 0, false, 0);
        h.seen(0, 200, 3, 1000, 100);
        h.found(1, 1, 0);
        h.write(0, 0, 5);
        h.image(0);
        h.restore(0);
        h.count(0);
    }
}
