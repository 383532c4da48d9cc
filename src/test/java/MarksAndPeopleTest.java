/** Promises 1 to 10: a new object, mark, let, person, of, set, way, be, turn, as. */
public final class MarksAndPeopleTest {
    private static final Check CHECK = new Check();

    public static void main(String[] args) {
        newObject();
        mark();
        let();
        person();
        of();
        aims();
        set();
        setBeyond();
        wayAndBe();
        turn();
        as();
        CHECK.end();
    }

    private static void newObject() {
        LikestHeir x = new LikestHeir();
        CHECK.due("1: count(0)", x.count(0), 0);
        CHECK.due("1: count(1)", x.count(1), 0);
        CHECK.due("1: count(2)", x.count(2), 9);
        CHECK.due("1: count(3)", x.count(3), 0);
        CHECK.due("1: YEAR", x.now(0), 0);
        CHECK.due("1: LAW", x.now(1), 0);
        CHECK.due("1: how many LIVE", x.now(2), 0);
        CHECK.due("1: GOODS of all", x.now(3), 0);
        CHECK.due("1: tear()", x.tear(), 0);
        CHECK.due("1: wipe()", x.wipe(), 0);
        CHECK.due("1: status(-1)", x.status(-1), 0);
        CHECK.due("1: undo()", x.undo(), Check.NONE);
        for (int s = 0; s < 4; s++) {
            CHECK.due("1: a sheet is MISSING", x.read(s), Check.MISSING);
        }
    }

    private static void mark() {
        LikestHeir x = new LikestHeir();
        for (int m = 0; m < 9; m++) {
            CHECK.due("2: WEIGHS 1 at first", x.mark(m, 0, 9), 1);
            CHECK.due("2: COSTS 2 at first", x.mark(m, 1, 99), 2);
            CHECK.due("2: WEIGHS what it was", x.mark(m, 0, 0), 9);
            CHECK.due("2: COSTS what it was", x.mark(m, 1, 0), 99);
            CHECK.due("2: WEIGHS 0", x.mark(m, 0, m), 0);
            CHECK.due("2: COSTS 0", x.mark(m, 1, 3), 0);
        }
        CHECK.due("2: all WEIGH together", x.count(2), 36);
        int[][] wrong = {{-1, 0, 1}, {9, 0, 1}, {0, -1, 1}, {0, 2, 1}, {0, 0, -1}, {0, 0, 10}, {0, 1, -1}, {0, 1, 100},
            {Integer.MIN_VALUE, 0, 1}, {Integer.MAX_VALUE, 1, 1}};
        for (int[] w : wrong) {
            CHECK.due("2: mark beyond", x.mark(w[0], w[1], w[2]), Check.BEYOND);
        }
        CHECK.due("2: nothing changed", x.mark(0, 0, 1), 0);
        CHECK.due("2: nothing changed", x.mark(0, 1, 1), 3);
    }

    private static void let() {
        LikestHeir x = new LikestHeir();
        CHECK.due("3: let(2)", x.let(2), 0);
        CHECK.due("3: let(1)", x.let(1), 2);
        CHECK.due("3: let(-1)", x.let(-1), Check.BEYOND);
        CHECK.due("3: let(3)", x.let(3), Check.BEYOND);
        CHECK.due("3: LAW", x.now(1), 1);
        CHECK.due("3: let(0)", x.let(0), 1);
    }

    private static void person() {
        LikestHeir x = new LikestHeir();
        CHECK.due("4: kind -1", x.person(-1, 3), Check.BEYOND);
        CHECK.due("4: kind 6", x.person(6, 3), Check.BEYOND);
        CHECK.due("4: age -1", x.person(0, -1), Check.BEYOND);
        CHECK.due("4: age 121", x.person(0, 121), Check.BEYOND);
        CHECK.due("4: count(0)", x.count(0), 0);
        for (int one = 0; one < 12; one++) {
            CHECK.due("4: its number", x.person(one % 6, one * 10), one);
            CHECK.due("4: KIND", x.of(one, 0), one % 6);
            CHECK.due("4: AGE", x.of(one, 1), one * 10);
            CHECK.due("4: GOODS 10 at first", x.of(one, 2), 10);
            CHECK.due("4: TERM 70 at first", x.of(one, 3), 70);
            CHECK.due("4: no CHILD at first", x.of(one, 4), -1);
            CHECK.due("4: LIVING", x.of(one, 5), 1);
            CHECK.due("4: WAY 0 at first", x.way(one, one % 9), 0);
        }
        CHECK.due("4: BEYOND is asked ahead of FULL", x.person(6, 0), Check.BEYOND);
        CHECK.due("4: BEYOND is asked ahead of FULL", x.person(0, 121), Check.BEYOND);
        CHECK.due("4: FULL", x.person(0, 120), Check.FULL);
        CHECK.due("4: count(0)", x.count(0), 12);
    }

    private static void of() {
        LikestHeir x = new LikestHeir();
        CHECK.due("5: no such one", x.of(0, 0), Check.BEYOND);
        x.person(3, 0);
        x.person(4, 120);
        CHECK.due("5: no such one", x.of(2, 0), Check.BEYOND);
        CHECK.due("5: no such one", x.of(-1, 0), Check.BEYOND);
        CHECK.due("5: no such what", x.of(0, -1), Check.BEYOND);
        CHECK.due("5: no such what", x.of(0, 7), Check.BEYOND);
        x.set(0, 4, 1);
        CHECK.due("5: CHILD", x.of(0, 4), 1);
        x.set(1, 5, 0);
        CHECK.due("5: LIVING", x.of(1, 5), 0);
    }

    private static void aims() {
        LikestHeir x = new LikestHeir();
        for (int kind = 0; kind < 6; kind++) {
            x.person(kind, 20 + kind);
        }
        x.set(3, 2, 50);
        x.set(5, 2, 50);
        CHECK.due("5: a PERSON aims at nobody", x.of(0, 6), -1);
        CHECK.due("5: a COPIER aims at the richest, the least number", x.of(1, 6), 3);
        CHECK.due("5: a SHUNNER aims at nobody", x.of(2, 6), -1);
        CHECK.due("5: a KIND ONE with no CHILD", x.of(3, 6), -1);
        CHECK.due("5: a SWORN one aims as a COPIER", x.of(4, 6), 3);
        CHECK.due("5: a TWIN with no CHILD aims at its HEIR", x.of(5, 6), 4);
        x.set(3, 4, 0);
        x.set(5, 4, 0);
        CHECK.due("5: a KIND ONE aims at its CHILD", x.of(3, 6), 0);
        CHECK.due("5: a TWIN aims at its CHILD", x.of(5, 6), 0);
        x.set(0, 5, 0);
        CHECK.due("5: a KIND ONE whose CHILD is DEAD", x.of(3, 6), -1);
        CHECK.due("5: a TWIN whose CHILD is DEAD", x.of(5, 6), 4);
        x.set(1, 2, 999);
        CHECK.due("5: a COPIER doesn't aim at itself", x.of(1, 6), 3);
        CHECK.due("5: a SWORN one aims at the richest", x.of(4, 6), 1);
        x.set(4, 5, 0);
        CHECK.due("5: a DEAD one aims, too", x.of(4, 6), 1);
        x.set(1, 5, 0);
        CHECK.due("5: nobody aims at a DEAD one", x.of(4, 6), 3);
    }

    private static void set() {
        LikestHeir x = new LikestHeir();
        x.person(0, 30);
        x.person(0, 40);
        CHECK.due("6: AGE", x.set(0, 1, 120), 30);
        CHECK.due("6: AGE", x.set(0, 1, 0), 120);
        CHECK.due("6: GOODS", x.set(0, 2, 999999), 10);
        CHECK.due("6: GOODS", x.set(0, 2, 0), 999999);
        CHECK.due("6: TERM", x.set(0, 3, 120), 70);
        CHECK.due("6: TERM", x.set(0, 3, 1), 120);
        CHECK.due("6: CHILD", x.set(0, 4, 1), -1);
        CHECK.due("6: CHILD", x.set(0, 4, -1), 1);
        CHECK.due("6: LIVING", x.set(0, 5, 0), 1);
        CHECK.due("6: LIVING", x.set(0, 5, 0), 0);
        CHECK.due("6: a DEAD one may be a CHILD", x.set(1, 4, 0), -1);
        CHECK.due("6: LIVING", x.set(0, 5, 1), 0);
        int[] are = {0, 0, 0, 1, -1, 1};
        for (int what = 0; what < 6; what++) {
            CHECK.due("6: of(0, " + what + ")", x.of(0, what), are[what]);
        }
        CHECK.due("6: the other one stays as it is", x.of(1, 1), 40);
    }

    private static void setBeyond() {
        LikestHeir x = new LikestHeir();
        x.person(0, 30);
        x.person(0, 40);
        int[][] wrong = {{-1, 1, 5}, {2, 1, 5}, {0, 0, 1}, {0, 6, 0}, {0, -1, 0}, {0, 1, -1}, {0, 1, 121}, {0, 2, -1},
            {0, 2, 1000000}, {0, 3, 0}, {0, 3, 121}, {0, 4, 0}, {0, 4, -2}, {0, 4, 2}, {1, 4, 1}, {0, 5, -1}, {0, 5, 2}};
        for (int[] w : wrong) {
            CHECK.due("6: set(" + w[0] + ", " + w[1] + ", " + w[2] + ")", x.set(w[0], w[1], w[2]), Check.BEYOND);
        }
        int[] are = {0, 30, 10, 70, -1, 1};
        for (int what = 0; what < 6; what++) {
            CHECK.due("6: nothing changed", x.of(0, what), are[what]);
        }
        CHECK.due("6: status(0)", x.status(0), wrong.length);
    }

    private static void wayAndBe() {
        LikestHeir x = new LikestHeir();
        x.person(0, 30);
        x.person(1, 30);
        for (int m = 0; m < 9; m++) {
            CHECK.due("8: be", x.be(0, m, 3), 0);
            CHECK.due("8: be", x.be(0, m, (m + 1) % 4), 3);
        }
        for (int m = 0; m < 9; m++) {
            CHECK.due("7: way", x.way(0, m), (m + 1) % 4);
            CHECK.due("7: way of the other one", x.way(1, m), 0);
        }
        CHECK.due("8: nothing is paid", x.of(0, 2), 10);
        CHECK.due("7: one", x.way(2, 0), Check.BEYOND);
        CHECK.due("7: one", x.way(-1, 0), Check.BEYOND);
        CHECK.due("7: mark", x.way(0, -1), Check.BEYOND);
        CHECK.due("7: mark", x.way(0, 9), Check.BEYOND);
        CHECK.due("8: one", x.be(2, 0, 0), Check.BEYOND);
        CHECK.due("8: one", x.be(-1, 0, 0), Check.BEYOND);
        CHECK.due("8: mark", x.be(0, 9, 0), Check.BEYOND);
        CHECK.due("8: mark", x.be(0, -1, 0), Check.BEYOND);
        CHECK.due("8: v", x.be(0, 0, 4), Check.BEYOND);
        CHECK.due("8: v", x.be(0, 0, -1), Check.BEYOND);
        x.set(0, 5, 0);
        CHECK.due("8: of a DEAD one", x.be(0, 0, 2), 1);
        CHECK.due("7: of a DEAD one", x.way(0, 0), 2);
    }

    private static void turn() {
        LikestHeir x = new LikestHeir();
        x.person(2, 30);
        CHECK.due("9: turn", x.turn(0, 5), 2);
        CHECK.due("9: turn", x.turn(0, 0), 5);
        CHECK.due("9: turn to the same", x.turn(0, 0), 0);
        CHECK.due("9: one", x.turn(1, 0), Check.BEYOND);
        CHECK.due("9: one", x.turn(-1, 0), Check.BEYOND);
        CHECK.due("9: kind", x.turn(0, -1), Check.BEYOND);
        CHECK.due("9: kind", x.turn(0, 6), Check.BEYOND);
        CHECK.due("9: KIND", x.of(0, 0), 0);
    }

    private static void as() {
        LikestHeir x = new LikestHeir();
        boolean[][] is = {
            {true, false, false, false, false, false},
            {true, true, false, false, false, false},
            {true, false, true, false, false, false},
            {true, false, false, true, false, false},
            {true, true, false, false, true, false},
            {true, false, false, true, false, true}};
        for (int kind = 0; kind < 6; kind++) {
            x.person(kind, 30);
            x.set(kind, 2, 100 + kind);
            for (int as = 0; as < 6; as++) {
                CHECK.due("10: as(" + kind + ", " + as + ")", x.as(kind, as), is[kind][as] ? 100 + kind : Check.KIND);
            }
        }
        CHECK.due("10: one", x.as(6, 0), Check.BEYOND);
        CHECK.due("10: one", x.as(-1, 0), Check.BEYOND);
        CHECK.due("10: kind", x.as(0, 6), Check.BEYOND);
        CHECK.due("10: kind", x.as(0, -1), Check.BEYOND);
        CHECK.due("10: status(2)", x.status(2), 23);
    }
}
