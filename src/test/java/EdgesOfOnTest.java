/** The boundaries of promises 20 to 24. */
public final class EdgesOfOnTest {
    private static final int[] NO_ONE = {-1, 4, 12, Edge.MIN, Edge.MAX};
    private static final int[] NO_SPAN = {-1, 101, Edge.MIN, Edge.MAX};

    public static void main(String[] args) throws Exception {
        Edge.run(EdgesOfOnTest.class);
    }

    private static void liveInLate(Edge e) {
        e.goTo(9950);
        e.liveIn();
    }

    // ---- promise 20

    @Says(promise = 20, text = "GOODS of one ON n YEARS (0 to 100).")
    static void p20From0To100Years(Edge e) {
        e.call("person", 0, 20);
        e.call("person", 1, 20);
        e.call("set", 0, 3, 120);
        e.call("set", 1, 3, 120);
        e.call("be", 0, 8, 1);
        e.due(10, "on", 1, 0);
        e.due(8, "on", 1, 1);
        e.due(8, "on", 1, 99);
        e.due(0, "on", 1, 100);
        e.due(10, "on", 0, 99);
        e.due(0, "on", 0, 100);
    }

    @Says(promise = 20, text = "GOODS of one ON n YEARS (0 to 100).")
    static void p20OfADeadOneTheyStay(Edge e) {
        e.people(0, 0);
        e.call("set", 0, 2, 999999);
        e.call("set", 0, 5, 0);
        e.due(999999, "on", 0, 0);
        e.due(999999, "on", 0, 100);
        e.call("set", 0, 2, 0);
        e.due(0, "on", 0, 100);
    }

    @Says(promise = 20, text = "BEYOND.")
    static void p20Beyond(Edge e) {
        e.due(Edge.BEYOND, "on", 0, 0);
        for (int one : NO_ONE) {
            e.refused(Edge.BEYOND, "on", one, 1);
        }
        for (int n : NO_SPAN) {
            e.refused(Edge.BEYOND, "on", 0, n);
        }
    }

    @Says(promise = 20, text = "STATE: YEAR would be above 9999.")
    static void p20UpTo9999AndNoFurther(Edge e) {
        e.goTo(9899);
        e.people(0);
        e.due(0, "on", 0, 100);
        e.call("years", 1);
        e.due(Edge.STATE, "on", 0, 100);
        e.due(0, "on", 0, 99);
        e.call("years", 99);
        e.call("set", 0, 2, 7);
        e.due(7, "on", 0, 0);
        e.due(Edge.STATE, "on", 0, 1);
        e.due(Edge.BEYOND, "on", 1, 1);
        e.due(Edge.BEYOND, "on", 0, 101);
        e.refusedAfter(EdgesOfOnTest::liveInLate, Edge.STATE, "on", 0, 48);
    }

    // ---- promise 21

    @Says(promise = 21, text = "LIVING ones ON n YEARS (0 to 100), as a set.")
    static void p21FromAllTwelveToNobody(Edge e) {
        for (int one = 0; one < 12; one++) {
            e.call("person", 0, 20);
            e.call("set", one, 3, 120 - one);
        }
        e.due(4095, "living", 0);
        e.due(4095, "living", 88);
        e.due(2047, "living", 89);
        e.due(1, "living", 99);
        e.due(0, "living", 100);
    }

    @Says(promise = 21, text = "BEYOND.")
    static void p21Beyond(Edge e) {
        for (int n : NO_SPAN) {
            e.refused(Edge.BEYOND, "living", n);
        }
    }

    @Says(promise = 21, text = "STATE likewise.")
    static void p21UpTo9999AndNoFurther(Edge e) {
        e.goTo(9899);
        e.people(0);
        e.due(0, "living", 100);
        e.call("years", 1);
        e.due(Edge.STATE, "living", 100);
        e.due(0, "living", 99);
        e.due(1, "living", 0);
        e.due(Edge.BEYOND, "living", 101);
        e.due(Edge.BEYOND, "living", -1);
        e.refusedAfter(EdgesOfOnTest::liveInLate, Edge.STATE, "living", 48);
    }

    // ---- promise 22

    @Says(promise = 22, text = "The LIVING one with most GOODS ON n YEARS (0 to 100); of several the least.")
    static void p22From0To100Years(Edge e) {
        e.call("person", 0, 69);
        e.call("person", 0, 20);
        e.call("set", 1, 3, 120);
        e.call("set", 0, 2, 11);
        e.due(0, "rich", 0);
        e.due(1, "rich", 1);
        e.due(1, "rich", 99);
        e.due(Edge.NONE, "rich", 100);
    }

    @Says(promise = 22, text = "of several the least")
    static void p22OfSeveralTheLeastAndOneCoinMoreIsMore(Edge e) {
        e.twelve(0, 1);
        e.due(0, "rich", 0);
        e.call("set", 11, 2, 11);
        e.due(11, "rich", 0);
        e.call("set", 5, 2, 11);
        e.due(5, "rich", 0);
        e.call("set", 5, 5, 0);
        e.due(11, "rich", 0);
        for (int one = 0; one < 12; one++) {
            e.call("set", one, 2, 0);
        }
        e.due(0, "rich", 0);
    }

    @Says(promise = 22, text = "BEYOND.")
    static void p22Beyond(Edge e) {
        for (int n : NO_SPAN) {
            e.refused(Edge.BEYOND, "rich", n);
        }
    }

    @Says(promise = 22, text = "STATE likewise.")
    static void p22UpTo9999AndNoFurther(Edge e) {
        e.goTo(9899);
        e.call("person", 0, 0);
        e.call("set", 0, 3, 120);
        e.due(0, "rich", 100);
        e.call("years", 1);
        e.due(Edge.STATE, "rich", 100);
        e.due(0, "rich", 99);
        e.due(Edge.BEYOND, "rich", 101);
        e.refusedAfter(EdgesOfOnTest::liveInLate, Edge.STATE, "rich", 48);
    }

    @Says(promise = 22, text = "NONE.")
    static void p22NobodyLives(Edge e) {
        e.due(Edge.NONE, "rich", 0);
        e.due(Edge.NONE, "rich", 100);
        e.people(0);
        e.call("set", 0, 5, 0);
        e.due(Edge.NONE, "rich", 0);
        e.refused(Edge.NONE, "rich", 100);
    }

    @Says(promise = 22, text = {"STATE likewise.", "NONE."})
    static void p22StateIsAskedAheadOfNone(Edge e) {
        e.goTo(9900);
        e.due(Edge.STATE, "rich", 100);
        e.due(Edge.NONE, "rich", 99);
    }

    // ---- promise 23

    @Says(promise = 23, text = "In how many YEARS (0 to 100) ON one is DEAD first.")
    static void p23From0To100Years(Edge e) {
        e.call("person", 0, 20);
        e.call("set", 0, 3, 120);
        e.due(100, "when", 0);
        e.call("set", 0, 1, 21);
        e.due(99, "when", 0);
        e.call("set", 0, 1, 119);
        e.due(1, "when", 0);
        e.call("set", 0, 1, 120);
        e.due(1, "when", 0);
        e.call("set", 0, 5, 0);
        e.due(0, "when", 0);
    }

    @Says(promise = 23, text = "In how many YEARS (0 to 100) ON one is DEAD first.")
    static void p23IsCountedFromTheYearThatIs(Edge e) {
        e.call("person", 0, 0);
        e.due(70, "when", 0);
        e.call("years", 30);
        e.due(40, "when", 0);
        e.call("years", 39);
        e.due(1, "when", 0);
        e.call("years", 1);
        e.due(0, "when", 0);
        e.call("set", 0, 5, 1);
        e.due(1, "when", 0);
    }

    @Says(promise = 23, text = "BEYOND.")
    static void p23Beyond(Edge e) {
        e.due(Edge.BEYOND, "when", 0);
        for (int one : NO_ONE) {
            e.refused(Edge.BEYOND, "when", one);
        }
    }

    @Says(promise = 23, text = "STATE: YEAR is above 9899.")
    static void p23InYear9899YetNotIn9900(Edge e) {
        e.goTo(9899);
        e.call("person", 0, 20);
        e.call("person", 0, 20);
        e.call("set", 0, 3, 120);
        e.call("set", 1, 5, 0);
        e.due(100, "when", 0);
        e.due(0, "when", 1);
        e.call("years", 1);
        e.due(Edge.STATE, "when", 0);
        e.due(Edge.STATE, "when", 1);
        e.due(Edge.BEYOND, "when", 2);
        e.refusedAfter(EdgesOfOnTest::liveInLate, Edge.STATE, "when", 2);
    }

    @Says(promise = 23, text = "NONE.")
    static void p23NotIn100Years(Edge e) {
        e.call("person", 0, 19);
        e.call("set", 0, 3, 120);
        e.due(Edge.NONE, "when", 0);
        e.refusedAfter(x -> {
            x.liveIn();
            x.call("set", 0, 1, 0);
            x.call("set", 0, 3, 101);
        }, Edge.NONE, "when", 0);
    }

    @Says(promise = 23, text = {"STATE: YEAR is above 9899.", "NONE."})
    static void p23StateIsAskedAheadOfNone(Edge e) {
        e.goTo(9900);
        e.call("person", 0, 0);
        e.call("set", 0, 3, 120);
        e.due(Edge.STATE, "when", 0);
    }

    // ---- promise 24

    @Says(promise = 24, text = "Who gets what one LEAVES first, if it goes on so: its HEIR as it DIES, ON 1 to 100 YEARS "
        + "(-1: nobody).")
    static void p24InTheFirstYearAndInTheLast(Edge e) {
        e.call("person", 0, 20);
        e.call("person", 0, 69);
        e.call("set", 0, 3, 120);
        e.due(-1, "gets", 0);
        e.due(0, "gets", 1);
        e.call("person", 0, 0);
        e.call("set", 2, 3, 120);
        e.due(2, "gets", 0);
    }

    @Says(promise = 24, text = "its HEIR as it DIES")
    static void p24NotWhoIsItsHeirNow(Edge e) {
        e.call("person", 0, 60);
        e.call("person", 0, 65);
        e.call("person", 0, 1);
        e.call("person", 1, 2);
        e.call("be", 0, 0, 3);
        e.call("set", 0, 2, 100);
        e.due(1, "heir", 0);
        e.due(3, "gets", 0);
    }

    @Says(promise = 24, text = "its HEIR as it DIES, ON 1 to 100 YEARS (-1: nobody)")
    static void p24FromNobodyToTheLastOfTwelve(Edge e) {
        e.people(0);
        e.due(-1, "gets", 0);
        e.anew();
        e.twelve(0, 30);
        e.call("set", 0, 1, 69);
        e.call("set", 11, 1, 31);
        e.due(11, "gets", 0);
        e.call("let", 2);
        e.call("set", 0, 2, 0);
        e.due(11, "gets", 0);
    }

    @Says(promise = 24, text = "BEYOND.")
    static void p24Beyond(Edge e) {
        e.due(Edge.BEYOND, "gets", 0);
        for (int one : NO_ONE) {
            e.refused(Edge.BEYOND, "gets", one);
        }
    }

    @Says(promise = 24, text = "STATE: it is DEAD, or likewise.")
    static void p24OfADeadOneAndFromYear9900On(Edge e) {
        e.refused(Edge.STATE, "gets", 2);
        e.goTo(9899);
        e.call("person", 0, 69);
        e.call("person", 0, 69);
        e.call("set", 1, 5, 0);
        e.due(-1, "gets", 0);
        e.due(Edge.STATE, "gets", 1);
        e.call("years", 1);
        e.call("set", 0, 5, 1);
        e.due(Edge.STATE, "gets", 0);
        e.due(Edge.BEYOND, "gets", 2);
        e.refusedAfter(EdgesOfOnTest::liveInLate, Edge.STATE, "gets", 1);
    }

    @Says(promise = 24, text = "NONE: it doesn't DIE.")
    static void p24NotIn100Years(Edge e) {
        e.call("person", 0, 19);
        e.call("set", 0, 3, 120);
        e.due(Edge.NONE, "gets", 0);
        e.call("set", 0, 1, 20);
        e.due(-1, "gets", 0);
        e.refusedAfter(x -> {
            x.liveIn();
            x.call("set", 0, 1, 0);
            x.call("set", 0, 3, 101);
        }, Edge.NONE, "gets", 0);
    }

    @Says(promise = 24, text = {"STATE: it is DEAD, or likewise.", "NONE: it doesn't DIE."})
    static void p24StateIsAskedAheadOfNone(Edge e) {
        e.goTo(9900);
        e.call("person", 0, 0);
        e.call("set", 0, 3, 120);
        e.due(Edge.STATE, "gets", 0);
    }
}
