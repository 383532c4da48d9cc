/** Promises 36 to 41: sheet, write, copy, lays, book, read. */
public final class SheetsTest {
    private static final Check CHECK = new Check();

    public static void main(String[] args) {
        sheet();
        write();
        copy();
        copyFindings();
        lays();
        book();
        bookFindings();
        read();
        readFindings();
        CHECK.end();
    }

    private static void fill(LikestHeir x, int s, long... numbers) {
        for (int i = 0; i < numbers.length; i++) {
            x.write(s, i, numbers[i]);
        }
    }

    private static void holds(String what, LikestHeir x, int s, long... numbers) {
        for (int i = 0; i < numbers.length; i++) {
            CHECK.due(what + " [" + i + "]", x.write(s, i, numbers[i]), numbers[i]);
        }
    }

    private static void sheet() {
        LikestHeir x = new LikestHeir();
        CHECK.due("36: of 8 bits", x.sheet(0, 8, 40), 40);
        CHECK.due("36: of 16 bits", x.sheet(1, 16, 3), 3);
        CHECK.due("36: of 64 bits", x.sheet(3, 64, 0), 0);
        CHECK.due("36: s", x.sheet(-1, 8, 1), Check.BEYOND);
        CHECK.due("36: s", x.sheet(4, 8, 1), Check.BEYOND);
        CHECK.due("36: bits", x.sheet(0, 32, 1), Check.BEYOND);
        CHECK.due("36: bits", x.sheet(0, -8, 1), Check.BEYOND);
        CHECK.due("36: bits", x.sheet(0, 1, 1), Check.BEYOND);
        CHECK.due("36: bits are asked ahead of n", x.sheet(0, 7, -1), Check.BEYOND);
        CHECK.due("36: n below 0", x.sheet(0, 8, -1), Check.SIZE);
        CHECK.due("36: n below 0, MISSING", x.sheet(0, 0, -1), Check.SIZE);
        CHECK.due("36: n above 40", x.sheet(0, 8, 41), Check.BEYOND);
        CHECK.due("36: n above 40, MISSING", x.sheet(0, 0, 41), Check.BEYOND);
        CHECK.due("36: the last number is there yet", x.write(0, 39, 5), 0);
        CHECK.due("36: MISSING", x.sheet(0, 0, 40), 0);
        CHECK.due("36: MISSING", x.write(0, 39, 5), Check.MISSING);
        CHECK.due("36: anew", x.sheet(0, 8, 40), 40);
        CHECK.due("36: all 0", x.write(0, 39, 5), 0);
        CHECK.due("36: again", x.sheet(0, 8, 40), 40);
        CHECK.due("36: all 0", x.write(0, 39, 5), 0);
        CHECK.due("36: one of none isn't MISSING", x.write(3, 0, 5), Check.BEYOND);
        CHECK.due("36: status(6)", x.status(6), 2);
    }

    private static void write() {
        LikestHeir x = new LikestHeir();
        CHECK.due("37: MISSING", x.write(0, 0, 1), Check.MISSING);
        CHECK.due("37: MISSING is asked ahead of the number", x.write(0, -1, 1), Check.MISSING);
        CHECK.due("37: s", x.write(-1, 0, 1), Check.BEYOND);
        CHECK.due("37: s", x.write(4, 0, 1), Check.BEYOND);
        x.sheet(0, 8, 2);
        x.sheet(1, 16, 2);
        x.sheet(2, 64, 2);
        CHECK.due("37: no such number", x.write(0, 2, 1), Check.BEYOND);
        CHECK.due("37: no such number", x.write(0, -1, 1), Check.BEYOND);
        long[] put = {127, 128, 255, 256, -129, 32767, 32768, 65535, 65536, 1L << 40, Long.MIN_VALUE, Check.BEYOND};
        for (long v : put) {
            x.write(0, 1, v);
            CHECK.due("37: 8 bits of " + v, x.write(0, 1, 0), (byte) v);
            x.write(1, 1, v);
            CHECK.due("37: 16 bits of " + v, x.write(1, 1, 0), (short) v);
            x.write(2, 1, v);
            CHECK.due("37: 64 bits of " + v, x.write(2, 1, 0), v);
        }
        CHECK.due("37: the other number", x.write(2, 0, 0), 0);
        CHECK.due("37: a number that looks like a finding is none", x.status(0), 4);
    }

    private static void copy() {
        LikestHeir x = new LikestHeir();
        x.sheet(0, 16, 5);
        x.sheet(1, 16, 4);
        fill(x, 0, 1, 2, 3, 4, 5);
        CHECK.due("38: to another one", x.copy(0, 1, 1, 0, 4), 4);
        holds("38: came", x, 1, 2, 3, 4, 5);
        holds("38: stayed", x, 0, 1, 2, 3, 4, 5);
        CHECK.due("38: behind itself", x.copy(0, 0, 0, 1, 4), 4);
        holds("38: as they all were", x, 0, 1, 1, 2, 3, 4);
        CHECK.due("38: ahead of itself", x.copy(0, 2, 0, 0, 3), 3);
        holds("38: as they all were", x, 0, 2, 3, 4, 3, 4);
        CHECK.due("38: none", x.copy(0, 5, 1, 4, 0), 0);
        CHECK.due("38: one", x.copy(1, 3, 0, 4, 1), 1);
        holds("38: the last", x, 0, 2, 3, 4, 3, 5);
    }

    private static void copyFindings() {
        LikestHeir x = new LikestHeir();
        x.sheet(0, 16, 5);
        x.sheet(1, 16, 4);
        x.sheet(2, 8, 5);
        CHECK.due("38: s", x.copy(-1, 0, 1, 0, 1), Check.BEYOND);
        CHECK.due("38: t", x.copy(0, 0, 4, 0, 1), Check.BEYOND);
        CHECK.due("38: no such sheet is asked ahead of MISSING", x.copy(3, 0, 4, 0, 1), Check.BEYOND);
        CHECK.due("38: MISSING", x.copy(0, 0, 3, 0, 1), Check.MISSING);
        CHECK.due("38: MISSING", x.copy(3, 0, 0, 0, 1), Check.MISSING);
        CHECK.due("38: MISSING", x.copy(3, 0, 3, -1, 1), Check.MISSING);
        CHECK.due("38: KIND", x.copy(0, 0, 2, 0, 1), Check.KIND);
        CHECK.due("38: KIND is asked ahead of BEYOND", x.copy(0, -1, 2, 0, 1), Check.KIND);
        int[][] wrong = {{-1, 0, 1}, {0, -1, 1}, {0, 0, -1}, {0, 0, 5}, {2, 0, 4}, {0, 1, 4}, {6, 0, 0}, {0, 5, 0},
            {1, 1, Integer.MAX_VALUE}, {Integer.MAX_VALUE, 0, 1}, {0, Integer.MAX_VALUE, 1}, {0, 0, Integer.MIN_VALUE},
            {Integer.MAX_VALUE, Integer.MAX_VALUE, Integer.MAX_VALUE}, {Integer.MIN_VALUE, 0, 1}};
        for (int[] w : wrong) {
            CHECK.due("38: from " + w[0] + ", to " + w[1] + ", n " + w[2], x.copy(0, w[0], 1, w[1], w[2]), Check.BEYOND);
        }
    }

    private static void lays() {
        LikestHeir x = new LikestHeir();
        CHECK.due("39: s", x.lays(-1, 0), Check.BEYOND);
        CHECK.due("39: s", x.lays(4, 0), Check.BEYOND);
        CHECK.due("39: MISSING is asked ahead of one", x.lays(0, 0), Check.MISSING);
        x.sheet(0, 8, 12);
        CHECK.due("39: one", x.lays(0, 0), Check.BEYOND);
        x.person(0, 30);
        CHECK.due("39: one", x.lays(0, 1), Check.BEYOND);
        CHECK.due("39: one", x.lays(0, -1), Check.BEYOND);
        for (int m = 0; m < 9; m++) {
            x.be(0, m, 1);
        }
        fill(x, 0, 3, 2, 1, 0, 4, -1, 7, 2, 3, 0, 0, 0);
        CHECK.due("39: how many came", x.lays(0, 0), 6);
        int[] ways = {3, 2, 1, 0, 1, 1, 1, 2, 3};
        for (int m = 0; m < 9; m++) {
            CHECK.due("39: WAY of MARK " + m, x.way(0, m), ways[m]);
        }
        x.sheet(1, 64, 2);
        fill(x, 1, 1L << 32, 1);
        CHECK.due("39: a short sheet", x.lays(1, 0), 1);
        CHECK.due("39: left out", x.way(0, 0), 3);
        CHECK.due("39: came", x.way(0, 1), 1);
        CHECK.due("39: stands for none", x.way(0, 2), 1);
        x.sheet(2, 16, 0);
        CHECK.due("39: an empty sheet", x.lays(2, 0), 0);
        CHECK.due("39: nothing is paid", x.of(0, 2), 10);
    }

    private static void book() {
        LikestHeir x = new LikestHeir();
        x.person(0, 69);
        x.person(0, 30);
        x.person(0, 20);
        x.sheet(0, 8, 5);
        fill(x, 0, 9, 9, 9, 9, 9);
        CHECK.due("40: how many", x.book(0, 0), 3);
        holds("40: now", x, 0, 1, 0, 0, 9, 9);
        CHECK.due("40: ON 1", x.book(0, 1), 3);
        holds("40: ON 1, of the DEAD, too", x, 0, 1, 2, 1, 9, 9);
        CHECK.due("40: ON 40", x.book(0, 40), 3);
        holds("40: ON 40", x, 0, 2, 2, -1, 9, 9);
        CHECK.due("40: ON 100", x.book(0, 100), 3);
        holds("40: ON 100", x, 0, -1, -1, -1, 9, 9);
        CHECK.due("40: nothing changes", x.now(2), 3);
        x.sheet(1, 16, 2);
        CHECK.due("40: as far as it has numbers", x.book(1, 100), 2);
        holds("40: -1 of 16 bits", x, 1, -1, -1);
        x.sheet(1, 64, 0);
        CHECK.due("40: an empty sheet", x.book(1, 100), 0);
        LikestHeir y = new LikestHeir();
        y.sheet(0, 64, 3);
        CHECK.due("40: nobody", y.book(0, 0), 0);
    }

    private static void bookFindings() {
        LikestHeir x = new LikestHeir();
        CHECK.due("40: s", x.book(-1, 0), Check.BEYOND);
        CHECK.due("40: s", x.book(4, 0), Check.BEYOND);
        CHECK.due("40: MISSING is asked ahead of n", x.book(0, 101), Check.MISSING);
        x.sheet(0, 8, 3);
        CHECK.due("40: n", x.book(0, -1), Check.BEYOND);
        CHECK.due("40: n", x.book(0, 101), Check.BEYOND);
        for (int i = 0; i < 99; i++) {
            x.years(100);
        }
        CHECK.due("40: up to 9999", x.book(0, 99), 0);
        CHECK.due("40: no further", x.book(0, 100), Check.STATE);
        CHECK.due("40: BEYOND is asked ahead of STATE", x.book(0, 101), Check.BEYOND);
    }

    private static void read() {
        LikestHeir x = new LikestHeir();
        x.person(0, 30);
        x.person(4, 20);
        x.person(0, 30);
        x.be(0, 0, 1);
        x.be(1, 1, 2);
        x.be(2, 0, 1);
        x.sheet(0, 8, 9);
        fill(x, 0, 9, 9, 9, 9, 9, 9, 9, 9, 9);
        CHECK.due("41: nothing is known: the eldest, the least number", x.read(0), 0);
        x.write(0, 1, 2);
        CHECK.due("41: MARK 1", x.read(0), 1);
        x.write(0, 0, 1);
        CHECK.due("41: MARK 0 and MARK 1", x.read(0), 0);
        x.mark(1, 0, 2);
        CHECK.due("41: as they WEIGH", x.read(0), 1);
        x.mark(1, 0, 1);
        x.write(0, 8, 3);
        CHECK.due("41: a SWORN one is the SAME in MARK 8", x.read(0), 1);
        x.write(0, 8, -1);
        CHECK.due("41: not if it isn't known", x.read(0), 0);
        x.set(0, 5, 0);
        CHECK.due("41: of the LIVING", x.read(0), 2);
        x.set(0, 5, 1);
        x.be(0, 0, 3);
        x.let(1);
        CHECK.due("41: 0 is no stranger's CHILD", x.read(0), 2);
        x.set(0, 5, 0);
        x.set(2, 4, 1);
        x.let(1);
        CHECK.due("41: with no CHILD", x.read(0), 2);
        x.sheet(1, 64, 1);
        x.write(1, 0, 1L << 32 | 1);
        x.set(1, 1, 31);
        CHECK.due("41: a large number isn't a WAY", x.read(1), 1);
        x.write(1, 0, 1);
        CHECK.due("41: numbers that aren't there aren't known", x.read(1), 2);
        CHECK.due("41: nothing changes", x.count(2), 9);
        CHECK.due("41: nothing changes", x.like(0, 2), 8);
    }

    private static void readFindings() {
        LikestHeir x = new LikestHeir();
        CHECK.due("41: s", x.read(-1), Check.BEYOND);
        CHECK.due("41: s", x.read(4), Check.BEYOND);
        CHECK.due("41: MISSING is asked ahead of NONE", x.read(0), Check.MISSING);
        x.sheet(0, 8, 12);
        CHECK.due("41: nobody LIVES", x.read(0), Check.NONE);
        x.person(0, 30);
        CHECK.due("41: one LIVES", x.read(0), 0);
        x.set(0, 5, 0);
        CHECK.due("41: nobody LIVES", x.read(0), Check.NONE);
    }
}
