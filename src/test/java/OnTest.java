/** Promises 20 to 24: on, living, rich, when, gets. */
public final class OnTest {
    private static final Check CHECK = new Check();

    public static void main(String[] args) {
        on();
        living();
        rich();
        when();
        gets();
        lateYears();
        nothingChanges();
        CHECK.end();
    }

    /** 0 of 69 with 100, 1 a COPIER of 65, 2 of 30 that is unlike them. */
    private static LikestHeir three() {
        LikestHeir x = new LikestHeir();
        x.person(0, 69);
        x.person(1, 65);
        x.person(0, 30);
        x.set(0, 2, 100);
        x.be(0, 0, 1);
        x.be(0, 1, 1);
        for (int m = 2; m < 9; m++) {
            x.be(2, m, 3);
        }
        return x;
    }

    private static void on() {
        LikestHeir x = three();
        CHECK.due("20: ON 0", x.on(0, 0), 100);
        CHECK.due("20: ON 0", x.on(1, 0), 10);
        CHECK.due("20: a change, and what 0 left", x.on(1, 1), 108);
        CHECK.due("20: DEAD", x.on(0, 1), 0);
        CHECK.due("20: it copies 2 from then on", x.on(1, 2), 106);
        CHECK.due("20: it is DEAD, too", x.on(1, 5), 0);
        CHECK.due("20: all of it went to 2, less five changes", x.on(2, 5), 10 + 100 + 10 - 10);
        CHECK.due("20: ON 100", x.on(2, 100), 0);
        CHECK.due("20: n", x.on(0, -1), Check.BEYOND);
        CHECK.due("20: n", x.on(0, 101), Check.BEYOND);
        CHECK.due("20: one", x.on(3, 1), Check.BEYOND);
        CHECK.due("20: one", x.on(-1, 1), Check.BEYOND);
    }

    private static void living() {
        LikestHeir x = three();
        CHECK.due("21: ON 0", x.living(0), 7);
        CHECK.due("21: ON 1", x.living(1), 6);
        CHECK.due("21: ON 4", x.living(4), 6);
        CHECK.due("21: ON 5", x.living(5), 4);
        CHECK.due("21: ON 39", x.living(39), 4);
        CHECK.due("21: ON 40", x.living(40), 0);
        CHECK.due("21: ON 100", x.living(100), 0);
        CHECK.due("21: n", x.living(-1), Check.BEYOND);
        CHECK.due("21: n", x.living(101), Check.BEYOND);
        CHECK.due("21: nobody", new LikestHeir().living(0), 0);
    }

    private static void rich() {
        LikestHeir x = three();
        CHECK.due("22: ON 0", x.rich(0), 0);
        CHECK.due("22: ON 1", x.rich(1), 1);
        CHECK.due("22: ON 5", x.rich(5), 2);
        CHECK.due("22: nobody", x.rich(40), Check.NONE);
        CHECK.due("22: n", x.rich(-1), Check.BEYOND);
        CHECK.due("22: n", x.rich(101), Check.BEYOND);
        x.set(0, 2, 10);
        CHECK.due("22: of several the least", x.rich(0), 0);
        x.set(0, 5, 0);
        CHECK.due("22: of the LIVING", x.rich(0), 1);
        x.set(1, 2, 0);
        x.set(2, 2, 0);
        CHECK.due("22: with nothing", x.rich(0), 1);
        CHECK.due("22: nobody", new LikestHeir().rich(0), Check.NONE);
    }

    private static void when() {
        LikestHeir x = three();
        CHECK.due("23: when(0)", x.when(0), 1);
        CHECK.due("23: when(1)", x.when(1), 5);
        CHECK.due("23: when(2)", x.when(2), 40);
        x.set(0, 5, 0);
        CHECK.due("23: it is DEAD", x.when(0), 0);
        x.set(1, 1, 120);
        CHECK.due("23: AGE above TERM", x.when(1), 1);
        x.set(2, 1, 20);
        x.set(2, 3, 120);
        CHECK.due("23: in 100 YEARS", x.when(2), 100);
        x.set(2, 1, 19);
        CHECK.due("23: not in 100 YEARS", x.when(2), Check.NONE);
        CHECK.due("23: one", x.when(3), Check.BEYOND);
        CHECK.due("23: one", x.when(-1), Check.BEYOND);
    }

    private static void gets() {
        LikestHeir x = three();
        CHECK.due("24: gets(0)", x.gets(0), 1);
        CHECK.due("24: gets(1)", x.gets(1), 2);
        CHECK.due("24: nobody", x.gets(2), -1);
        x.person(0, 20);
        CHECK.due("24: the new one is more like 1", x.gets(1), 3);
        x.be(3, 8, 1);
        x.set(3, 5, 0);
        CHECK.due("24: it is DEAD", x.gets(3), Check.STATE);
        x.set(2, 1, 19);
        x.set(2, 3, 120);
        CHECK.due("24: it doesn't DIE", x.gets(2), Check.NONE);
        x.set(2, 1, 20);
        CHECK.due("24: in the last YEAR", x.gets(2), -1);
        CHECK.due("24: one", x.gets(4), Check.BEYOND);
        CHECK.due("24: one", x.gets(-1), Check.BEYOND);
        LikestHeir y = new LikestHeir();
        y.person(0, 68);
        y.person(0, 69);
        y.person(0, 67);
        CHECK.due("24: HEIR now", y.heir(0), 1);
        CHECK.due("24: HEIR as it dies", y.gets(0), 2);
        y.set(0, 1, 69);
        CHECK.due("24: HEIR as it dies, in a YEAR in which that one dies, too", y.gets(0), 1);
        CHECK.due("24: and of that one", y.gets(1), 2);
    }

    private static void lateYears() {
        LikestHeir x = new LikestHeir();
        x.person(0, 0);
        x.person(0, 69);
        x.set(1, 5, 0);
        for (int i = 0; i < 98; i++) {
            x.years(100);
        }
        x.years(99);
        x.set(0, 5, 1);
        x.set(0, 1, 69);
        CHECK.due("23: YEAR 9899", x.when(0), 1);
        CHECK.due("24: YEAR 9899", x.gets(0), -1);
        CHECK.due("23: DEAD", x.when(1), 0);
        x.years(1);
        x.set(0, 5, 1);
        x.set(0, 1, 69);
        CHECK.due("23: YEAR 9900", x.when(0), Check.STATE);
        CHECK.due("23: YEAR 9900, DEAD", x.when(1), Check.STATE);
        CHECK.due("24: YEAR 9900", x.gets(0), Check.STATE);
        CHECK.due("23: BEYOND is asked ahead of STATE", x.when(2), Check.BEYOND);
        CHECK.due("24: BEYOND is asked ahead of STATE", x.gets(2), Check.BEYOND);
        CHECK.due("20: ON 99", x.on(0, 99), 0);
        CHECK.due("20: ON 100", x.on(0, 100), Check.STATE);
        CHECK.due("20: BEYOND is asked ahead of STATE", x.on(2, 100), Check.BEYOND);
        CHECK.due("21: ON 99", x.living(99), 0);
        CHECK.due("21: ON 100", x.living(100), Check.STATE);
        CHECK.due("21: BEYOND is asked ahead of STATE", x.living(101), Check.BEYOND);
        CHECK.due("22: STATE is asked ahead of NONE", x.rich(100), Check.STATE);
        CHECK.due("22: ON 99", x.rich(99), Check.NONE);
        CHECK.due("20: ON 0", x.on(0, 0), 0);
    }

    private static void nothingChanges() {
        LikestHeir x = three();
        x.on(0, 100);
        x.living(100);
        x.rich(100);
        x.when(0);
        x.gets(0);
        CHECK.due("20: YEAR", x.now(0), 0);
        CHECK.due("20: how many LIVE", x.now(2), 3);
        CHECK.due("20: GOODS", x.now(3), 120);
        CHECK.due("20: AGES", x.count(3), 164);
        CHECK.due("20: WAYS", x.way(1, 0), 0);
    }
}
