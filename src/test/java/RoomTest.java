import java.lang.management.ManagementFactory;

/** All calls of a run live in one room: so no call makes an object, whatever it answers. */
public final class RoomTest {
    private static final Check CHECK = new Check();
    private static final int MOST_BYTES_OF_ONE = 20000;
    private static final int MOST_BYTES_OF_CALLS = 4096;

    public static void main(String[] args) {
        com.sun.management.ThreadMXBean threads =
            (com.sun.management.ThreadMXBean) ManagementFactory.getThreadMXBean();
        long id = Thread.currentThread().getId();
        manyCalls(new LikestHeir());
        long begin = threads.getThreadAllocatedBytes(id);
        LikestHeir x = new LikestHeir();
        long made = threads.getThreadAllocatedBytes(id);
        manyCalls(x);
        long end = threads.getThreadAllocatedBytes(id);
        CHECK.holds("a new object makes " + (made - begin) + " bytes", made - begin < MOST_BYTES_OF_ONE);
        CHECK.holds("calls made " + (end - made) + " bytes", end - made < MOST_BYTES_OF_CALLS);
        CHECK.end();
    }

    private static void manyCalls(LikestHeir x) {
        for (int round = 0; round < 5; round++) {
            x.tear();
            x.person(round, 30 + round);
            x.person(5 - round, 30);
            x.set(round, 2, 500);
            x.set(round, 4, round + 1);
            x.be(round, round, 3);
            x.mark(round, 0, round);
            x.let(round % 3);
            x.image();
            for (int one = 0; one < 2; one++) {
                questions(x, one, 1 - one);
            }
            sheetsAndText(x, round);
            x.years(3);
            x.dies(round);
            x.undo();
            x.status(-1);
        }
    }

    private static void questions(LikestHeir x, int one, int other) {
        x.of(one, 6);
        x.way(one, 3);
        x.turn(one, 4);
        x.as(one, 1);
        x.like(one, other);
        x.same(one, other);
        x.heir(one);
        x.heirOf(one);
        x.watched(one);
        x.changes(one);
        x.now(3);
        x.on(one, 100);
        x.living(100);
        x.rich(100);
        x.when(one);
        x.gets(one);
        x.change(one, other);
        x.fewest(one, other);
        x.worth(one, 3);
        x.best(one);
        x.steer(one, other);
        x.kind(one, 100);
        x.fair(100);
        x.ways(one, other);
    }

    private static void sheetsAndText(LikestHeir x, int round) {
        x.sheet(0, 8, 12);
        x.sheet(1, 8, 12);
        x.write(0, 3, 3);
        x.copy(0, 1, 1, 2, 5);
        x.lays(1, 0);
        x.book(0, 50);
        x.read(0);
        x.feed('l' << 24 | 'a' << 16 | 'w' << 8 | '0' + round, 4);
        x.count(1);
        x.valley();
        x.feed('k' << 16 | 'i' << 8 | 'n', 3);
        x.valley();
        x.wipe();
    }
}
