/** Promises 17 to 19: years, dies, now. */
public final class YearsTest {
    private static final Check CHECK = new Check();

    public static void main(String[] args) {
        changesGoByNumbers();
        changesCost();
        shunnersTurnRound();
        agesAndTerms();
        deathsGoByNumbers();
        leavesByLaws();
        leavesAtMost();
        lastYear();
        now();
        CHECK.end();
    }

    private static LikestHeir people(int... kinds) {
        LikestHeir x = new LikestHeir();
        for (int kind : kinds) {
            x.person(kind, 30);
        }
        return x;
    }

    private static void changesGoByNumbers() {
        LikestHeir x = people(3, 3, 3, 0);
        x.set(0, 4, 1);
        x.set(1, 4, 3);
        x.set(2, 4, 1);
        x.be(3, 5, 2);
        CHECK.due("17: nobody dies", x.years(1), 0);
        CHECK.due("17: 0 went ahead of 1", x.way(0, 5), 0);
        CHECK.due("17: 1 copied 3", x.way(1, 5), 2);
        CHECK.due("17: 2 saw what 1 had become", x.way(2, 5), 2);
        CHECK.due("17: 0 paid nothing", x.of(0, 2), 10);
        CHECK.due("17: 1 paid", x.of(1, 2), 8);
        CHECK.due("17: 2 paid", x.of(2, 2), 8);
        CHECK.due("17: a year later", x.years(1), 0);
        CHECK.due("17: 0 copied 1", x.way(0, 5), 2);
        CHECK.due("17: who is like it pays nothing", x.of(1, 2), 8);
    }

    private static void changesCost() {
        LikestHeir x = people(1, 0);
        x.set(1, 2, 50);
        x.mark(1, 1, 7);
        x.mark(2, 1, 4);
        for (int m = 0; m < 4; m++) {
            x.be(1, m, 3 - m);
        }
        x.years(1);
        CHECK.due("17: one MARK a YEAR", x.way(0, 0), 3);
        CHECK.due("17: not two", x.way(0, 1), 0);
        CHECK.due("17: GOODS", x.of(0, 2), 8);
        x.years(1);
        CHECK.due("17: the next", x.way(0, 1), 2);
        CHECK.due("17: GOODS", x.of(0, 2), 1);
        x.years(50 - 20);
        CHECK.due("17: it can't pay for the next", x.way(0, 2), 0);
        CHECK.due("17: GOODS", x.of(0, 2), 1);
        x.set(0, 2, 4);
        x.years(1);
        CHECK.due("17: now it can", x.way(0, 2), 1);
        CHECK.due("17: GOODS", x.of(0, 2), 0);
        x.be(1, 8, 3);
        x.set(0, 2, 3);
        x.years(1);
        CHECK.due("17: the last MARK", x.way(0, 8), 3);
        CHECK.due("17: GOODS", x.of(0, 2), 1);
    }

    private static void shunnersTurnRound() {
        LikestHeir x = people(2, 0);
        for (int m = 0; m < 9; m++) {
            x.be(0, m, 3);
            x.be(1, m, m == 4 ? 3 : 1);
        }
        x.years(1);
        CHECK.due("17: 0 behind 3", x.way(0, 4), 0);
        CHECK.due("17: GOODS", x.of(0, 2), 8);
        x.years(1);
        CHECK.due("17: nothing is like any more", x.of(0, 2), 8);
        x.be(1, 4, 0);
        x.years(1);
        CHECK.due("17: 1 behind 0", x.way(0, 4), 1);
    }

    private static void agesAndTerms() {
        LikestHeir x = people(0, 0, 0, 0);
        x.set(0, 1, 68);
        x.set(1, 1, 119);
        x.set(1, 3, 120);
        x.set(2, 1, 120);
        x.set(3, 5, 0);
        x.set(3, 1, 69);
        CHECK.due("17: those with AGE above TERM, and at it", x.years(1), 2);
        CHECK.due("17: 0 LIVES", x.of(0, 5), 1);
        CHECK.due("17: AGE of 0", x.of(0, 1), 69);
        CHECK.due("17: 1 is DEAD", x.of(1, 5), 0);
        CHECK.due("17: AGE of 1", x.of(1, 1), 120);
        CHECK.due("17: AGE is 120 at most", x.of(2, 1), 120);
        CHECK.due("17: a DEAD one grows no older", x.of(3, 1), 69);
        CHECK.due("17: and 0", x.years(1), 1);
        CHECK.due("17: 0 is DEAD", x.of(0, 5), 0);
        CHECK.due("17: AGE of 0", x.of(0, 1), 70);
        CHECK.due("17: nobody is left", x.years(100), 0);
        CHECK.due("17: AGE of 0", x.of(0, 1), 70);
        CHECK.due("17: YEAR", x.now(0), 102);
        LikestHeir y = people(0);
        y.set(0, 1, 0);
        y.set(0, 3, 1);
        CHECK.due("17: TERM 1", y.years(1), 1);
    }

    private static void deathsGoByNumbers() {
        LikestHeir x = people(0, 0, 0);
        x.set(0, 1, 69);
        x.set(1, 1, 69);
        CHECK.due("17: two die", x.years(1), 2);
        CHECK.due("17: 0 left to 1, 1 to 2", x.of(2, 2), 30);
        CHECK.due("17: GOODS of 0", x.of(0, 2), 0);
        CHECK.due("17: GOODS of 1", x.of(1, 2), 0);
        LikestHeir y = people(0, 0, 0);
        y.set(2, 1, 69);
        y.set(1, 1, 80);
        CHECK.due("17: two die", y.years(1), 2);
        CHECK.due("17: 1 left to 2 (the eldest), 2 to 0", y.of(0, 2), 30);
        LikestHeir z = people(0, 0);
        z.set(0, 1, 69);
        z.set(1, 1, 69);
        CHECK.due("17: all die", z.years(1), 2);
        CHECK.due("17: with no HEIR they are gone", z.of(1, 2), 0);
    }

    private static void leavesByLaws() {
        for (int law = 0; law < 3; law++) {
            LikestHeir x = people(0, 0, 0);
            x.let(law);
            x.set(0, 2, 101);
            CHECK.due("18: its HEIR", x.dies(0), 1);
            CHECK.due("18: it is DEAD", x.of(0, 5), 0);
            CHECK.due("18: its own are 0", x.of(0, 2), 0);
            CHECK.due("18: GOODS of the HEIR", x.of(1, 2), law == 2 ? 61 : 111);
            CHECK.due("18: GOODS of the next", x.of(2, 2), law == 2 ? 60 : 10);
            CHECK.due("18: it is DEAD already", x.dies(0), Check.STATE);
            x.set(1, 2, 7);
            CHECK.due("18: the last but one", x.dies(1), 2);
            CHECK.due("18: all to the HEIR", x.of(2, 2), law == 2 ? 67 : 17);
            CHECK.due("18: the last one", x.dies(2), -1);
            CHECK.due("18: they are gone", x.of(2, 2), 0);
            CHECK.due("18: the YEAR is as it was", x.now(0), 0);
            CHECK.due("18: no such one", x.dies(3), Check.BEYOND);
            CHECK.due("18: no such one", x.dies(-1), Check.BEYOND);
        }
        LikestHeir y = people(0, 0, 0, 0);
        y.let(1);
        y.set(0, 4, 3);
        CHECK.due("18: by LAW 1 the CHILD", y.dies(0), 3);
        CHECK.due("18: GOODS", y.of(3, 2), 20);
    }

    private static void leavesAtMost() {
        LikestHeir x = people(0, 0, 0);
        x.set(0, 2, 999999);
        x.set(1, 2, 999998);
        x.set(2, 2, 600000);
        x.let(2);
        CHECK.due("18: dies(0)", x.dies(0), 1);
        CHECK.due("18: more is gone", x.of(1, 2), 999999);
        CHECK.due("18: more is gone", x.of(2, 2), 999999);
        LikestHeir y = people(0, 0);
        y.set(0, 2, 999999);
        y.set(1, 2, 999999);
        y.dies(0);
        CHECK.due("18: more is gone", y.of(1, 2), 999999);
    }

    private static void lastYear() {
        LikestHeir x = people(0);
        CHECK.due("17: years(0)", x.years(0), Check.BEYOND);
        CHECK.due("17: years(-1)", x.years(-1), Check.BEYOND);
        CHECK.due("17: years(101)", x.years(101), Check.BEYOND);
        CHECK.due("17: years(max)", x.years(Integer.MAX_VALUE), Check.BEYOND);
        for (int i = 0; i < 99; i++) {
            x.years(100);
        }
        CHECK.due("17: YEAR", x.now(0), 9900);
        CHECK.due("17: BEYOND is asked ahead of STATE", x.years(101), Check.BEYOND);
        CHECK.due("17: YEAR would be 10000", x.years(100), Check.STATE);
        CHECK.due("17: YEAR", x.now(0), 9900);
        CHECK.due("17: up to 9999", x.years(99), 0);
        CHECK.due("17: YEAR", x.now(0), 9999);
        CHECK.due("17: no further", x.years(1), Check.STATE);
    }

    private static void now() {
        LikestHeir x = people(0, 0, 0);
        x.set(0, 2, 999999);
        x.set(1, 2, 999999);
        x.let(2);
        CHECK.due("19: YEAR", x.now(0), 0);
        CHECK.due("19: LAW", x.now(1), 2);
        CHECK.due("19: how many LIVE", x.now(2), 3);
        CHECK.due("19: GOODS", x.now(3), 2000008);
        x.set(0, 5, 0);
        x.years(3);
        CHECK.due("19: YEAR", x.now(0), 3);
        CHECK.due("19: how many LIVE", x.now(2), 2);
        CHECK.due("19: GOODS of the LIVING", x.now(3), 1000009);
        CHECK.due("19: now(-1)", x.now(-1), Check.BEYOND);
        CHECK.due("19: now(4)", x.now(4), Check.BEYOND);
    }
}
