/** Promises 25 to 32: change, fewest, worth, best, steer, kind, fair, ways. */
public final class WhatToChangeTest {
    private static final Check CHECK = new Check();

    public static void main(String[] args) {
        change();
        changeIsLeast();
        fewest();
        fewestByWeights();
        worth();
        best();
        steer();
        kind();
        fair();
        ways();
        waysByLawAndDead();
        lateYears();
        nothingChanges();
        CHECK.end();
    }

    private static LikestHeir people(int n) {
        LikestHeir x = new LikestHeir();
        for (int i = 0; i < n; i++) {
            x.person(0, 30);
        }
        return x;
    }

    private static void change() {
        LikestHeir x = people(3);
        x.be(0, 4, 2);
        CHECK.due("25: 1 is HEIR of 0 already", x.change(1, 0), Check.STATE);
        CHECK.due("25: MARK 4 to WAY 2", x.change(2, 0), 42);
        x.be(1, 4, 2);
        CHECK.due("25: 1 is like in all, and has the less number", x.change(2, 0), Check.NONE);
        x.set(2, 1, 31);
        CHECK.due("25: but 2 is the eldest now", x.change(2, 0), 42);
        x.set(0, 5, 0);
        CHECK.due("25: of a DEAD one", x.change(2, 0), 42);
        x.set(2, 5, 0);
        CHECK.due("25: it is DEAD", x.change(2, 0), Check.STATE);
        CHECK.due("25: one and the same", x.change(1, 1), Check.BEYOND);
        CHECK.due("25: no such one", x.change(3, 1), Check.BEYOND);
        CHECK.due("25: no such one", x.change(1, 3), Check.BEYOND);
        CHECK.due("25: no such one", x.change(-1, 1), Check.BEYOND);
        CHECK.due("25: no such one", x.change(1, -1), Check.BEYOND);
    }

    private static void changeIsLeast() {
        LikestHeir x = people(3);
        x.be(0, 3, 3);
        x.be(0, 6, 1);
        x.be(1, 0, 1);
        x.be(1, 1, 1);
        x.be(2, 0, 1);
        x.be(2, 1, 1);
        CHECK.due("25: the least MARK of four", x.change(2, 0), 0);
        x.be(2, 0, 0);
        x.be(2, 1, 0);
        x.be(1, 0, 0);
        x.be(1, 1, 0);
        CHECK.due("25: the least MARK of two", x.change(2, 0), 33);
        x.mark(3, 0, 0);
        CHECK.due("25: one that WEIGHS", x.change(2, 0), 61);
    }

    private static void fewest() {
        LikestHeir x = people(3);
        CHECK.due("26: it is already", x.fewest(1, 0), 0);
        CHECK.due("26: not by all", x.fewest(2, 0), Check.NONE);
        for (int m = 0; m < 9; m++) {
            x.be(2, m, 1);
        }
        x.set(2, 1, 31);
        CHECK.due("26: all nine", x.fewest(2, 0), 9);
        x.be(1, 3, 2);
        CHECK.due("26: eight", x.fewest(2, 0), 8);
        x.be(2, 7, 0);
        CHECK.due("26: one less", x.fewest(2, 0), 7);
        x.set(0, 5, 0);
        CHECK.due("26: of a DEAD one", x.fewest(2, 0), 7);
        x.set(2, 5, 0);
        CHECK.due("26: it is DEAD", x.fewest(2, 0), Check.STATE);
        CHECK.due("26: one and the same", x.fewest(0, 0), Check.BEYOND);
        CHECK.due("26: no such one", x.fewest(0, 3), Check.BEYOND);
        CHECK.due("26: no such one", x.fewest(3, 0), Check.BEYOND);
        CHECK.due("26: no such one", x.fewest(-1, 0), Check.BEYOND);
        CHECK.due("26: no such one", x.fewest(0, -1), Check.BEYOND);
    }

    private static void fewestByWeights() {
        LikestHeir x = people(3);
        for (int m = 0; m < 9; m++) {
            x.be(2, m, 1);
            x.mark(m, 0, m);
        }
        x.be(1, 0, 1);
        x.be(1, 8, 1);
        x.be(1, 7, 1);
        CHECK.due("26: 21 are passed by 8, 7 and 6 (of as many years 1 is ahead)", x.fewest(2, 0), 4);
        x.set(2, 1, 31);
        CHECK.due("26: the eldest needs 21 only", x.fewest(2, 0), 3);
        x.turn(2, 4);
        CHECK.due("26: a SWORN one has MARK 8", x.fewest(2, 0), 2);
    }

    private static void worth() {
        LikestHeir x = people(3);
        x.set(0, 2, 100);
        x.set(1, 2, 20);
        x.set(2, 2, 3);
        for (int m = 0; m < 9; m++) {
            CHECK.due("27: 0 is HEIR of 1 and 2, and wouldn't be", x.worth(0, m), 23);
            CHECK.due("27: 1 is HEIR of 0, and wouldn't be", x.worth(1, m), 100);
            CHECK.due("27: 2 is nobody's", x.worth(2, m), 0);
        }
        x.be(2, 5, 3);
        CHECK.due("27: in the next WAY it'd be, if it were elder", x.worth(2, 5), 0);
        x.set(2, 1, 31);
        CHECK.due("27: 0 behind 3: it had better be", x.worth(2, 5), -120);
        x.be(2, 5, 2);
        CHECK.due("27: 3 behind 2", x.worth(2, 5), 0);
        x.set(1, 5, 0);
        x.be(2, 5, 3);
        CHECK.due("27: of LIVING ones", x.worth(0, 0), 0);
        CHECK.due("27: a DEAD one", x.worth(1, 0), 0);
        CHECK.due("27: one", x.worth(3, 0), Check.BEYOND);
        CHECK.due("27: one", x.worth(-1, 0), Check.BEYOND);
        CHECK.due("27: mark", x.worth(0, 9), Check.BEYOND);
        CHECK.due("27: mark", x.worth(0, -1), Check.BEYOND);
    }

    private static void best() {
        LikestHeir x = people(3);
        CHECK.due("28: its own WAYS", x.best(0), 0);
        x.be(0, 7, 3);
        x.be(1, 7, 3);
        CHECK.due("28: of as many years 2 gets nothing at all", x.best(2), 0);
        x.set(2, 1, 31);
        CHECK.due("28: the eldest, with MARK 7 as theirs", x.best(2), 73);
        x.be(2, 7, 3);
        CHECK.due("28: its own WAY of MARK 0", x.best(2), 0);
        x.be(0, 0, 1);
        x.be(1, 0, 1);
        x.be(2, 0, 1);
        CHECK.due("28: its own WAY of MARK 0, that isn't 0", x.best(2), 1);
        x.set(2, 5, 0);
        CHECK.due("28: it is DEAD", x.best(2), Check.STATE);
        CHECK.due("28: one", x.best(3), Check.BEYOND);
        CHECK.due("28: one", x.best(-1), Check.BEYOND);
        LikestHeir y = people(1);
        y.be(0, 0, 2);
        CHECK.due("28: of several the least", y.best(0), 0);
    }

    private static void steer() {
        LikestHeir x = people(3);
        x.be(1, 2, 3);
        x.be(2, 2, 1);
        x.be(2, 5, 2);
        CHECK.due("29: it is so already", x.steer(0, 1), Check.STATE);
        CHECK.due("29: MARK 2 makes them alike only, MARK 5 does", x.steer(0, 2), 52);
        x.set(2, 1, 31);
        CHECK.due("29: the eldest needs as many only", x.steer(0, 2), 21);
        x.mark(2, 0, 0);
        CHECK.due("29: MARK 5 in any WAY that isn't 1's: the least", x.steer(0, 2), 51);
        x.set(0, 5, 0);
        CHECK.due("29: of a DEAD one", x.steer(0, 2), 51);
        x.mark(5, 0, 0);
        x.be(2, 7, 1);
        x.be(2, 8, 1);
        x.be(2, 0, 1);
        CHECK.due("29: no one MARK does", x.steer(0, 2), Check.NONE);
        x.set(2, 5, 0);
        CHECK.due("29: that one is DEAD", x.steer(0, 2), Check.STATE);
        CHECK.due("29: one and the same", x.steer(0, 0), Check.BEYOND);
        CHECK.due("29: no such one", x.steer(0, 3), Check.BEYOND);
        CHECK.due("29: no such one", x.steer(3, 0), Check.BEYOND);
        CHECK.due("29: no such one", x.steer(-1, 0), Check.BEYOND);
        CHECK.due("29: no such one", x.steer(0, -1), Check.BEYOND);
        LikestHeir y = people(3);
        y.be(1, 0, 1);
        y.be(0, 0, 1);
        CHECK.due("29: any other WAY does: the least", y.steer(0, 2), 0);
    }

    private static void kind() {
        LikestHeir x = people(3);
        x.set(0, 1, 68);
        x.set(0, 2, 500);
        x.be(0, 0, 1);
        x.be(0, 1, 1);
        x.set(2, 1, 40);
        CHECK.due("30: who copies gets it", x.kind(1, 2), 1);
        CHECK.due("30: not in one YEAR", x.kind(1, 1), 0);
        x.set(1, 4, 0);
        CHECK.due("30: of several the least", x.kind(1, 2), 1);
        x.person(0, 10);
        x.set(3, 2, 600);
        CHECK.due("30: who copies its CHILD gets it", x.kind(1, 2), 3);
        x.set(1, 5, 0);
        CHECK.due("30: DEAD or not", x.kind(1, 2), 0);
        CHECK.due("30: one", x.kind(4, 2), Check.BEYOND);
        CHECK.due("30: one", x.kind(-1, 2), Check.BEYOND);
        CHECK.due("30: n", x.kind(0, 0), Check.BEYOND);
        CHECK.due("30: n", x.kind(0, 101), Check.BEYOND);
        LikestHeir y = people(3);
        y.set(1, 1, 69);
        y.set(1, 2, 500);
        y.be(1, 0, 1);
        y.be(0, 1, 2);
        CHECK.due("30: a COPIER of 1 and a TWIN of 2 get as much", y.kind(0, 1), 1);
        CHECK.due("30: but the COPIER pays for copying 2, too", y.kind(0, 2), 5);
    }

    private static void fair() {
        LikestHeir x = people(3);
        x.set(0, 1, 69);
        x.set(0, 2, 100);
        CHECK.due("31: by halves", x.fair(1), 2);
        x.set(0, 4, 2);
        x.set(1, 2, 50);
        x.set(2, 2, 0);
        CHECK.due("31: 150, 100 or 100: the least", x.fair(1), 1);
        x.let(2);
        CHECK.due("31: whatever the LAW is now", x.fair(1), 1);
        CHECK.due("31: which stays", x.now(1), 2);
        CHECK.due("31: of several the least", x.fair(40), 0);
        CHECK.due("31: nobody", new LikestHeir().fair(1), 0);
        LikestHeir y = people(3);
        y.set(0, 1, 69);
        y.set(0, 2, 2);
        y.set(1, 2, 999997);
        CHECK.due("31: 999999, 999999 or 999998", y.fair(1), 2);
        CHECK.due("31: n", x.fair(0), Check.BEYOND);
        CHECK.due("31: n", x.fair(101), Check.BEYOND);
    }

    private static void ways() {
        LikestHeir x = people(2);
        CHECK.due("32: there is no other", x.ways(0, 1), 4096);
        x.person(0, 30);
        CHECK.due("32: of two alike the least number", x.ways(0, 1), 4096);
        CHECK.due("32: the other one", x.ways(0, 2), 0);
        x.be(2, 0, 1);
        CHECK.due("32: in WAYS in which MARK 0 is 1", x.ways(0, 2), 1024);
        CHECK.due("32: else", x.ways(0, 1), 3072);
        x.be(2, 5, 3);
        CHECK.due("32: MARKS 0 and 5: 3 * 1 of 16, and 1", x.ways(0, 2), 256 * 5);
        x.be(2, 6, 3);
        CHECK.due("32: MARK 6 is as it is, so both are needed", x.ways(0, 2), 256);
        x.be(0, 6, 3);
        CHECK.due("32: MARK 6 is as 2's: 1 needs one of both, and 2 neither, or both", x.ways(0, 1), 256 * 5);
        x.mark(6, 0, 9);
        CHECK.due("32: or for all", x.ways(0, 2), 4096);
        CHECK.due("32: one and the same", x.ways(0, 0), Check.BEYOND);
        CHECK.due("32: no such one", x.ways(0, 3), Check.BEYOND);
        CHECK.due("32: no such one", x.ways(3, 0), Check.BEYOND);
        CHECK.due("32: no such one", x.ways(-1, 0), Check.BEYOND);
        CHECK.due("32: no such one", x.ways(0, -1), Check.BEYOND);
    }

    private static void waysByLawAndDead() {
        LikestHeir x = people(3);
        x.set(0, 4, 2);
        x.let(1);
        CHECK.due("32: the CHILD", x.ways(0, 2), 4096);
        x.set(2, 5, 0);
        CHECK.due("32: that one is DEAD", x.ways(0, 2), Check.STATE);
        x.set(0, 5, 0);
        CHECK.due("32: of a DEAD one", x.ways(0, 1), 4096);
    }

    private static void lateYears() {
        LikestHeir x = people(1);
        for (int i = 0; i < 99; i++) {
            x.years(100);
        }
        CHECK.due("30: up to 9999", x.kind(0, 99), 0);
        CHECK.due("30: no further", x.kind(0, 100), Check.STATE);
        CHECK.due("30: BEYOND is asked ahead of STATE", x.kind(1, 100), Check.BEYOND);
        CHECK.due("31: up to 9999", x.fair(99), 0);
        CHECK.due("31: no further", x.fair(100), Check.STATE);
        CHECK.due("31: BEYOND is asked ahead of STATE", x.fair(101), Check.BEYOND);
    }

    private static void nothingChanges() {
        LikestHeir x = people(4);
        x.be(3, 3, 3);
        x.be(0, 1, 2);
        x.change(3, 0);
        x.fewest(3, 0);
        x.worth(0, 0);
        x.best(0);
        x.steer(0, 3);
        x.kind(0, 50);
        x.fair(50);
        x.ways(0, 3);
        for (int m = 0; m < 9; m++) {
            CHECK.due("25: WAYS of 0", x.way(0, m), m == 1 ? 2 : 0);
            CHECK.due("25: WAYS of 3", x.way(3, m), m == 3 ? 3 : 0);
        }
        CHECK.due("30: KIND", x.of(0, 0), 0);
        CHECK.due("30: YEAR", x.now(0), 0);
        CHECK.due("30: how many LIVE", x.now(2), 4);
        CHECK.due("31: LAW", x.now(1), 0);
    }
}
