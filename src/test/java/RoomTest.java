import java.lang.management.ManagementFactory;

/** All calls of one run live in one room of some 600,000 objects, each of which takes at least 16 bytes. */
public final class RoomTest {
    private static final Check C = new Check("the room");
    private static final com.sun.management.ThreadMXBean ROOM =
        (com.sun.management.ThreadMXBean) ManagementFactory.getThreadMXBean();
    private static final long ROOM_BYTES = 600_000 * 16;
    private static long answers;

    public static void main(String[] args) {
        ROOM.setThreadAllocatedMemoryEnabled(true);
        run(new StruckWhile());
        long before = bytes();
        StruckWhile x = new StruckWhile();
        long made = bytes() - before;
        C.holds("a new object takes at most a hundredth of the room: " + made, made > 0 && made <= ROOM_BYTES / 100);
        before = bytes();
        run(x);
        made = bytes() - before;
        C.holds("its calls take at most the room: " + made, made <= ROOM_BYTES);
        C.holds("something was answered", answers != 0);
        C.end();
    }

    private static long bytes() {
        return ROOM.getThreadAllocatedBytes(Thread.currentThread().getId());
    }

    private static final byte[] TEXT =
        "heat 9 !(p>6)&(n<2|h<7);calm 4 (((v>2)));calm 9 m=3|m=7;heat 2 k>1;spark 61".getBytes(java.nio.charset.StandardCharsets.US_ASCII);

    /** Some 500 calls, each of the face at least once. */
    private static void run(StruckWhile x) {
        answers += x.undo();
        for (int i = 0; i < 6; i++) {
            answers += x.one(6 - i, 9 - i, 11 * i) + x.row(0, i & 3, i) + x.see(i, 12, false) + x.book(i, 11 * i);
        }
        for (int i = 0; i < 4; i++) {
            answers += x.work(100 + 200 * i, 60 - i);
        }
        for (byte sign : TEXT) {
            answers += x.feed(sign);
        }
        answers += x.square() + x.anvil(1) + x.image();
        for (int i = 0; i < 10; i++) {
            answers += x.plan(i & 3, i & 3) + x.tape(i % 6, i % 5, 60) + x.item(i % 6, i, 300) + x.read(i % 6, i);
        }
        for (int i = 0; i < 10; i++) {
            answers += x.best(40, i & 3) + x.talk(99, i & 1) + x.can(i % 6, i & 1, i & 1) + x.odds(i % 6, 20, i & 1);
            answers += x.mean(60, i & 1) + x.ends(i & 1) + x.on(60, 10 + i % 6) + x.piece(i & 3, 4) + x.looked();
            answers += x.judge(0, i) + x.act(i % 6, i % 3, i) + x.trace(i) + x.taken(i % 6, i % 7) + x.count(i & 7);
            answers += x.told(i % 6) + x.of(i % 6, i % 6) + x.away(i % 6, i > 7) + x.heat(i % 6, 5 * i);
            answers += x.shift(0, 0, 0, 1, 50) + x.pass(6) + x.undo();
        }
    }
}
