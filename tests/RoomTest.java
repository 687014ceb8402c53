import com.sun.management.ThreadMXBean;
import java.lang.management.ManagementFactory;

/** All calls of a run live in one room: a call makes nothing that lasts or could be counted. */
public final class RoomTest {
    private static final ThreadMXBean ROOM = (ThreadMXBean) ManagementFactory.getThreadMXBean();
    private static final int OBJECT_BYTES = 40000;

    public static void main(String[] args) {
        TideBook book = full();
        calls(book, 3);
        long before = used();
        full();
        long made = used() - before;
        Check.yes("a new object takes " + made + " bytes with its texts", made < OBJECT_BYTES);
        before = used();
        calls(book, 200);
        long inCalls = used() - before;
        Check.yes("600 calls took " + inCalls + " bytes", inCalls < 1000);
        Check.finish();
    }

    private static long used() {
        return ROOM.getThreadAllocatedBytes(Thread.currentThread().getId());
    }

    private static TideBook full() {
        TideBook book = Check.coast("range 0 to 3;monk 0 pace 1;monk 2 pace 1;monk 4 pace 1;monk 6 pace 1;monk 8 pace 1;monk 10 pace 1;"
                + "duty 1 from 0 to 999;duty 3 from 0 to 999;duty 5 from 0 to 999;duty 7 from 0 to 999;duty 9 from 0 to 999;duty 11 from 0 to 999;storm 50");
        Check.rule(book, "wade 9 if 1+1+1+1+1+1+1+1+1+1+1+1+1+1+1+1+1+1+1<99 or depth > 3 and not (there or rising);wait if hour > 22;tire 1 if step < 3");
        return book;
    }

    private static void calls(TideBook book, int times) {
        int sum = 0;
        for (int i = 0; i < times; i++) {
            book.feed(0x0b090705, 0x03010000, 0, 0, 0);
            book.end(6);
            sum += book.send(-1);
            sum += book.most(0, 5);
            sum += book.span(20, true) + book.trial(20, true) + book.ahead(1, 50) + book.doomed(10) + book.done(9);
            book.image();
            book.hours(3);
            sum += book.undo() ? 1 : 0;
            book.goal(0, i % 12);
            sum += book.start(0, 11, 4, 9, 3) + book.safe(0, 5, 3, 3) + book.fetch(0) + book.stranded() + book.led(3, true);
            sum += book.back() ? 1 : 0;
            // a text, read anew each time: "wade 7 if step > 999 + 1"
            book.feed(0x77616465, 0x20372069, 0x66207374, 0x6570203e, 0x20393939);
            book.feed(0x202b2031, 0, 0, 0, 0);
            book.end(24);
            sum += book.law();
        }
        Check.yes("answers", sum != 0);
    }
}
