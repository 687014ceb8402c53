/** A new object, feed and end. */
public final class TapeTest {
    public static void main(String[] args) {
        fresh();
        feed();
        end();
        Check.finish();
    }

    private static void fresh() {
        Check.promise(1);
        TideBook book = new TideBook();
        int[] counts = {0, 0, 0, -1, 0, 12, 14, 6, 12, 5, 3, 0, 0, 0, 0, 0};
        for (int what = 0; what < counts.length; what++) {
            Check.same("count(" + what + ") of a new one", counts[what], book.count(what));
        }
        for (int place = 0; place < 12; place++) {
            Check.same("ground(" + place + ")", 0, book.ground(place));
            Check.same("printed(" + place + ")", 12 * place, book.printed(place));
        }
        Check.same("fault()", -1, book.fault());
        Check.noIndex("monk(0, 0)", () -> book.monk(0, 0));
        Check.noIndex("duty(0, 0)", () -> book.duty(0, 0));
        Check.no("undo()", book.undo());
        Check.no("back()", book.back());
        Check.no("end(1)", book.end(1));
        Check.same("seed", 1, book.seed(1));
        Check.same("a hundred hours", 0, book.hours(100));
        Check.same("stranded", 0, book.stranded());
    }

    private static void feed() {
        Check.promise(2);
        TideBook book = new TideBook();
        for (int i = 1; i <= 20; i++) {
            Check.same("feed " + i, 20 * i, book.feed(0, 0, 0, 0, 0));
        }
        Check.same("feed of a full tape", -1, book.feed(1, 2, 3, 4, 5));
        Check.yes("it still has 400", book.end(400));
        Check.yes("end(381)", book.end(381));
        Check.same("feed beyond 400", -1, book.feed(1, 2, 3, 4, 5));
        Check.yes("end(380)", book.end(380));
        Check.same("feed to 400", 400, book.feed(1, 2, 3, 4, 5));

        // s t o r / m 4 2 blank: the highest byte of each number comes first
        TideBook order = new TideBook();
        order.feed(0x73746f72, 0x6d203432, 0x20202020, 0x20202020, 0x20202020);
        Check.same("coast of it", 1, order.coast());
        Check.same("storm", 42, order.count(11));

        // bytes above 127 are bytes of their own, not numbers below 0
        TideBook high = Check.coast("monk 0 pace 1");
        Check.tape(high, 255);
        Check.noArgument("send to place 255", () -> high.send(-1));
    }

    private static void end() {
        Check.promise(3);
        TideBook book = new TideBook();
        Check.yes("end(0) of an empty one", book.end(0));
        Check.no("end(-1)", book.end(-1));
        Check.no("end of the least int", book.end(Integer.MIN_VALUE));
        book.feed(0, 0, 0, 0, 0);
        Check.no("end(21)", book.end(21));
        Check.no("end(-1)", book.end(-1));
        Check.yes("end(20)", book.end(20));
        Check.yes("end(7)", book.end(7));
        Check.no("end(8)", book.end(8));
        Check.same("feed behind 7", 27, book.feed(0, 0, 0, 0, 0));

        // what is behind the end is gone, also when more is fed
        TideBook cut = new TideBook();
        cut.feed(0x73746f72, 0x6d203432, 0x39202020, 0, 0);
        cut.end(8);
        Check.same("coast of the first 8", 1, cut.coast());
        Check.same("storm", 42, cut.count(11));
        Check.same("the tape is used up", 20, cut.feed(0, 0, 0, 0, 0));
    }
}
