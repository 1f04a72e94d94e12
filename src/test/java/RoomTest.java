import com.sun.management.ThreadMXBean;
import java.lang.management.ManagementFactory;

/** All calls of a run live in one room: an object is small, and its calls make nothing but what is thrown. */
public final class RoomTest {
    private static final Check CHECK = new Check();
    private static final int CALLS = 512;
    /** 8 rows of 100 ints and three inns, with room to spare. */
    private static final long MOST_FOR_AN_OBJECT = 8000;
    /** An exception is made anew each time: its object, and what the machine writes down of where it was. */
    private static final long MOST_FOR_A_THROW = 2000;

    public static void main(String[] args) {
        if (!(ManagementFactory.getThreadMXBean() instanceof ThreadMXBean bean)) {
            System.out.println("RoomTest: this machine does not count");
            return;
        }
        // The first round loads the classes, which takes room too.
        for (int round = 0; round < 2; round++) {
            boolean counts = round > 0;
            object(bean, counts);
            calls(bean, counts);
        }
        CHECK.end("RoomTest");
    }

    private static void atMost(String what, long bytes, long most, boolean counts) {
        if (counts) {
            CHECK.due(what + " (" + bytes + " bytes) at most " + most, bytes <= most ? 1 : 0, 1);
        }
    }

    private static long taken(ThreadMXBean bean) {
        return bean.getThreadAllocatedBytes(Thread.currentThread().getId());
    }

    private static void object(ThreadMXBean bean, boolean counts) {
        long before = taken(bean);
        ServesWhatOneDreamt x = new ServesWhatOneDreamt();
        atMost("an object", taken(bean) - before, MOST_FOR_AN_OBJECT, counts);
        CHECK.due("5 of a plate", x.larder(0), 5);
    }

    private static void calls(ThreadMXBean bean, boolean counts) {
        ServesWhatOneDreamt x = Check.inn("g000;g100;g220;g310;g400;g550;g729;l099;l199;");
        Check.write(x, 0, 2, new int[100]);
        Check.write(x, 6, "l099;h150;b19;w05;e13;");
        x.keep(1, 1, 2, 3);
        for (int kind = 0; kind <= 22; kind++) {
            long before = taken(bean);
            for (int i = 0; i < CALLS; i++) {
                call(x, kind, i);
            }
            long most = kind == 22 ? CALLS * MOST_FOR_A_THROW : 0;
            // What asks for the bytes may itself take some.
            atMost("calls of kind " + kind, taken(bean) - before, most + 200, counts);
        }
    }

    private static long call(ServesWhatOneDreamt x, int kind, int i) {
        switch (kind) {
            case 0: return x.inn(6);
            case 1: return x.guestThen(i % 7, 60, 0);
            case 2: return x.larderThen(i % 10, 60);
            case 3: return x.then(60, i % 3);
            case 4: return x.leaves(i % 8 - 1);
            case 5: return x.out(i % 10);
            case 6: return x.table(i % 7, i % 2);
            case 7: return x.bestWish(i % 7, 60, 0);
            case 8: return x.buy(60);
            case 9: return x.least(i % 10, 20);
            case 10: return x.send(60);
            case 11: return x.seats(i % 8);
            case 12: return x.same(i % 8);
            case 13: return x.whatIs(0, i % 7, i % 2);
            case 14: return x.whatWish(0, i % 7);
            case 15: return x.two(i % 7, (i + 1) % 7, 30);
            case 16: return x.mares(i % 7, 7, 20, 50, i % 2);
            case 17: return x.judge(0) + x.forged(0);
            case 18: return x.years(20, i, i % 2);
            case 19: return x.image() + x.restore() + x.count(i % 7);
            case 20: return x.row(2, 2, 100) + x.put(2, i % 100, i) + x.copy(2, 0, 0, 0, 100) + x.element(2, i % 100);
            case 21: return x.keep(3, 1, i % 8, 0) + x.cost(3) + x.mean(i % 2);
            default: return x.toss(1) + Check.element(x, 9, 0);
        }
    }
}
