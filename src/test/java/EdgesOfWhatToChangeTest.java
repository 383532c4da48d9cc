/** The boundaries of promises 25 to 32. */
public final class EdgesOfWhatToChangeTest {
    private static final int[][] NO_TWO = {{0, 0}, {3, 3}, {-1, 0}, {0, -1}, {4, 0}, {0, 4}, {4, 4}, {-1, -1},
        {Edge.MIN, 0}, {0, Edge.MIN}, {Edge.MAX, 0}, {0, Edge.MAX}, {2, 2}};
    private static final int[] NO_ONE = {-1, 4, 12, Edge.MIN, Edge.MAX};
    private static final int[] NO_SPAN = {0, -1, 101, Edge.MIN, Edge.MAX};

    public static void main(String[] args) throws Exception {
        Edge.run(EdgesOfWhatToChangeTest.class);
    }

    private static void liveInLate(Edge e) {
        e.goTo(9950);
        e.liveIn();
    }

    private static void twelveRich(Edge e) {
        e.twelve(0, 30);
        for (int one = 0; one < 12; one++) {
            e.call("set", one, 2, 999999);
        }
    }

    // ---- promise 25

    @Says(promise = 25, text = "The least MARK which, in another WAY (the least that does), makes one HEIR of another one, "
        + "if it isn't: 10 times the MARK, and that WAY.")
    static void p25FromMark0InWay0ToMark8InWay3(Edge e) {
        e.people(0, 0, 0);
        e.call("be", 0, 8, 3);
        e.due(83, "change", 2, 0);
        e.call("be", 0, 8, 0);
        e.call("be", 1, 0, 2);
        e.call("be", 2, 0, 1);
        e.due(0, "change", 2, 0);
    }

    @Says(promise = 25, text = "The least MARK which")
    static void p25TheLeastOfSeveralMarks(Edge e) {
        e.people(0, 0, 0);
        e.ways(0, 0, 0, 1, 1, 1, 1, 1, 1, 1);
        for (int m = 2; m < 9; m++) {
            e.due(10 * m + 1, "change", 2, 0);
            e.call("mark", m, 0, 0);
        }
        e.due(Edge.NONE, "change", 2, 0);
    }

    @Says(promise = 25, text = "BEYOND (also one and the same).")
    static void p25Beyond(Edge e) {
        e.due(Edge.BEYOND, "change", 0, 1);
        for (int[] w : NO_TWO) {
            e.refused(Edge.BEYOND, "change", w[0], w[1]);
        }
    }

    @Says(promise = 25, text = "STATE: it is already, or it is DEAD.")
    static void p25ItIsAlreadyOrItIsDead(Edge e) {
        e.people(0, 0, 0);
        e.due(Edge.STATE, "change", 1, 0);
        e.due(Edge.NONE, "change", 2, 0);
        e.call("set", 2, 5, 0);
        e.due(Edge.STATE, "change", 2, 0);
        e.call("set", 1, 5, 0);
        e.due(Edge.STATE, "change", 1, 0);
        e.refused(Edge.STATE, "change", 2, 0);
        e.refusedAfter(x -> {
            x.liveIn();
            x.call("set", 1, 5, 0);
        }, Edge.STATE, "change", 3, 0);
    }

    @Says(promise = 25, text = "makes one HEIR of another one")
    static void p25OfADeadOne(Edge e) {
        e.people(0, 0, 0);
        e.call("set", 0, 5, 0);
        e.call("be", 0, 3, 2);
        e.due(Edge.STATE, "change", 1, 0);
        e.due(32, "change", 2, 0);
    }

    @Says(promise = 25, text = "NONE: no one MARK does.")
    static void p25TwoMarksAreTooMany(Edge e) {
        e.people(0, 0, 0);
        e.call("set", 2, 1, 31);
        e.call("be", 2, 7, 1);
        e.due(70, "change", 2, 0);
        e.call("be", 2, 8, 1);
        e.due(Edge.NONE, "change", 2, 0);
        e.refusedAfter(x -> {
            x.liveIn();
            x.call("let", 1);
            x.call("set", 0, 4, 1);
            x.ways(0, 2, 2, 2, 2, 2, 2, 2);
            x.ways(1, 2, 2, 2, 2, 2, 2, 2);
        }, Edge.NONE, "change", 3, 0);
    }

    // ---- promise 26

    @Says(promise = 26, text = "The fewest MARKS in which one must be as another one is so that it is its HEIR (0 to 9; all "
        + "else as it is).")
    static void p26From0To9(Edge e) {
        e.people(0, 0, 0);
        e.call("set", 2, 1, 31);
        e.due(0, "fewest", 2, 0);
        for (int m = 0; m < 9; m++) {
            e.call("be", 2, m, 1);
            e.due(m + 1, "fewest", 2, 0);
        }
        e.call("turn", 2, 4);
        e.due(8, "fewest", 2, 0);
    }

    @Says(promise = 26, text = "The fewest MARKS")
    static void p26TheHeaviestAreFewest(Edge e) {
        e.people(0, 0, 0);
        e.ways(2, 1, 1, 1, 1, 1, 1, 1, 1, 1);
        e.call("mark", 8, 0, 9);
        e.call("be", 1, 8, 1);
        e.due(1, "fewest", 2, 0);
        e.call("mark", 8, 0, 8);
        e.due(2, "fewest", 2, 0);
    }

    @Says(promise = 26, text = "BEYOND likewise.")
    static void p26Beyond(Edge e) {
        e.due(Edge.BEYOND, "fewest", 0, 1);
        for (int[] w : NO_TWO) {
            e.refused(Edge.BEYOND, "fewest", w[0], w[1]);
        }
    }

    @Says(promise = 26, text = "STATE: it is DEAD.")
    static void p26ItIsDeadWhetherOrNotItCouldBe(Edge e) {
        e.people(0, 0, 0);
        e.call("set", 1, 5, 0);
        e.due(Edge.STATE, "fewest", 1, 0);
        e.call("set", 2, 5, 0);
        e.due(Edge.STATE, "fewest", 2, 0);
        e.call("set", 1, 5, 1);
        e.call("set", 0, 5, 0);
        e.due(0, "fewest", 1, 0);
        e.refused(Edge.STATE, "fewest", 2, 0);
    }

    @Says(promise = 26, text = "NONE: not by all.")
    static void p26NotByAllNine(Edge e) {
        e.people(0, 0, 0);
        e.ways(2, 1, 1, 1, 1, 1, 1, 1, 1, 1);
        e.due(Edge.NONE, "fewest", 2, 0);
        e.call("set", 2, 1, 31);
        e.due(9, "fewest", 2, 0);
        for (int m = 0; m < 9; m++) {
            e.call("mark", m, 0, 0);
        }
        e.due(0, "fewest", 2, 0);
        e.call("set", 2, 1, 30);
        e.due(Edge.NONE, "fewest", 2, 0);
        e.refusedAfter(x -> {
            x.liveIn();
            x.call("let", 1);
            x.call("set", 0, 4, 1);
            x.ways(0, 2, 2, 2, 2, 2, 2, 2, 2, 2);
            x.ways(1, 2, 2, 2, 2, 2, 2, 2, 2, 2);
        }, Edge.NONE, "fewest", 3, 0);
    }

    // ---- promise 27

    @Says(promise = 27, text = "GOODS of all LIVING ones whose HEIR it is, less those if that MARK were in the next WAY")
    static void p27TheMostThatAMarkIsWorth(Edge e) {
        twelveRich(e);
        for (int m = 0; m < 9; m++) {
            e.due(11 * 999999, "worth", 0, m);
            e.due(999999, "worth", 1, m);
            e.due(0, "worth", 2, m);
        }
    }

    @Says(promise = 27, text = "(0 behind 3; below 0: it had better be)")
    static void p27TheLeastThatAMarkIsWorthWith0Behind3(Edge e) {
        twelveRich(e);
        for (int m = 0; m < 9; m++) {
            for (int v = 1; v < 4; v++) {
                e.call("be", 0, m, v);
                e.due(v == 3 ? -11 * 999999 : 0, "worth", 0, m);
            }
            e.call("be", 0, m, 0);
        }
    }

    @Says(promise = 27, text = "What a MARK of one is worth now")
    static void p27NothingForWhatWeighsNothingAnOathAndTheDead(Edge e) {
        e.people(4, 0, 0);
        e.due(20, "worth", 0, 7);
        e.due(0, "worth", 0, 8);
        e.call("mark", 7, 0, 0);
        e.due(0, "worth", 0, 7);
        e.due(20, "worth", 0, 6);
        e.call("set", 2, 5, 0);
        e.due(0, "worth", 0, 6);
        e.call("set", 2, 5, 1);
        e.call("set", 0, 5, 0);
        e.due(0, "worth", 0, 6);
        e.anew();
        e.people(0);
        e.due(0, "worth", 0, 0);
    }

    @Says(promise = 27, text = "BEYOND.")
    static void p27Beyond(Edge e) {
        e.due(Edge.BEYOND, "worth", 0, 0);
        for (int one : NO_ONE) {
            e.refused(Edge.BEYOND, "worth", one, 0);
        }
        for (int mark : new int[] {-1, 9, Edge.MIN, Edge.MAX}) {
            e.refused(Edge.BEYOND, "worth", 0, mark);
        }
    }

    // ---- promise 28

    @Says(promise = 28, text = "The MARK and its WAY (10 times the one, and the other; its own WAYS, too), with which GOODS "
        + "of all LIVING ones whose HEIR it is are most together")
    static void p28FromMark0InWay0ToMark8InWay3(Edge e) {
        e.people(0, 0, 0);
        e.call("set", 2, 1, 31);
        e.due(0, "best", 2);
        e.call("be", 0, 8, 3);
        e.call("be", 1, 8, 3);
        e.due(83, "best", 2);
    }

    @Says(promise = 28, text = "its own WAYS, too")
    static void p28ItsOwnWayOfMark0(Edge e) {
        e.people(0, 0, 0);
        e.call("set", 2, 1, 31);
        for (int v = 3; v >= 0; v--) {
            e.call("be", 0, 0, v);
            e.call("be", 1, 0, v);
            e.call("be", 2, 0, v);
            e.due(v, "best", 2);
        }
    }

    @Says(promise = 28, text = "of several the least")
    static void p28OfSeveralTheLeastEvenIfAllGetNothing(Edge e) {
        e.people(0);
        e.call("be", 0, 0, 3);
        e.due(0, "best", 0);
        e.people(0, 0);
        e.call("set", 1, 2, 0);
        e.call("set", 2, 2, 0);
        e.due(0, "best", 0);
        e.call("set", 2, 2, 1);
        e.due(0, "best", 0);
        e.call("be", 2, 0, 1);
        e.call("set", 1, 1, 31);
        e.due(1, "best", 0);
    }

    @Says(promise = 28, text = "BEYOND.")
    static void p28Beyond(Edge e) {
        e.due(Edge.BEYOND, "best", 0);
        for (int one : NO_ONE) {
            e.refused(Edge.BEYOND, "best", one);
        }
    }

    @Says(promise = 28, text = "STATE: it is DEAD.")
    static void p28ItIsDead(Edge e) {
        e.people(0);
        e.call("dies", 0);
        e.due(Edge.STATE, "best", 0);
        e.refused(Edge.STATE, "best", 2);
    }

    // ---- promise 29

    @Says(promise = 29, text = "The least MARK of one which, in another WAY (the least that does), makes its HEIR another "
        + "one: 10 times the MARK, and that WAY.")
    static void p29FromMark0InWay0ToMark8InWay3(Edge e) {
        e.people(0, 0, 0);
        e.call("be", 2, 8, 3);
        e.due(83, "steer", 0, 2);
        e.anew();
        e.people(0, 0, 0);
        e.call("be", 0, 0, 1);
        e.call("be", 1, 0, 1);
        e.due(0, "steer", 0, 2);
    }

    @Says(promise = 29, text = "in another WAY (the least that does)")
    static void p29TheLeastOfSeveralWays(Edge e) {
        e.people(0, 0, 0);
        e.call("set", 2, 1, 31);
        e.call("be", 2, 0, 3);
        e.due(1, "steer", 0, 2);
        e.call("set", 2, 1, 30);
        e.due(3, "steer", 0, 2);
        e.call("set", 2, 1, 31);
        e.call("be", 0, 0, 1);
        e.call("be", 1, 0, 1);
        e.due(0, "steer", 0, 2);
    }

    @Says(promise = 29, text = "BEYOND (also one and the same).")
    static void p29Beyond(Edge e) {
        e.due(Edge.BEYOND, "steer", 0, 1);
        for (int[] w : NO_TWO) {
            e.refused(Edge.BEYOND, "steer", w[0], w[1]);
        }
    }

    @Says(promise = 29, text = "STATE: it is so already, or that one is DEAD.")
    static void p29ItIsSoAlreadyOrThatOneIsDead(Edge e) {
        e.people(0, 0, 0);
        e.due(Edge.STATE, "steer", 0, 1);
        e.due(Edge.NONE, "steer", 0, 2);
        e.call("set", 2, 5, 0);
        e.due(Edge.STATE, "steer", 0, 2);
        e.call("set", 1, 5, 0);
        e.due(Edge.STATE, "steer", 0, 1);
        e.refused(Edge.STATE, "steer", 0, 2);
        e.refusedAfter(x -> {
            x.liveIn();
            x.call("set", 1, 5, 0);
        }, Edge.STATE, "steer", 0, 3);
    }

    @Says(promise = 29, text = "makes its HEIR another one")
    static void p29ADeadOnesHeir(Edge e) {
        e.people(0, 0, 0);
        e.call("set", 0, 5, 0);
        e.call("be", 2, 4, 2);
        e.due(Edge.STATE, "steer", 0, 1);
        e.due(42, "steer", 0, 2);
    }

    @Says(promise = 29, text = "NONE: no one MARK does.")
    static void p29TwoMarksAreTooMany(Edge e) {
        e.people(0, 0, 0);
        e.call("mark", 0, 0, 3);
        e.call("mark", 8, 0, 2);
        e.call("be", 1, 0, 1);
        e.call("be", 0, 0, 1);
        e.call("be", 2, 8, 1);
        e.due(0, "steer", 0, 2);
        e.call("be", 2, 0, 2);
        e.call("mark", 0, 0, 1);
        e.due(81, "steer", 0, 2);
        e.call("mark", 8, 0, 1);
        e.due(Edge.NONE, "steer", 0, 2);
        e.refusedAfter(x -> {
            x.liveIn();
            x.ways(0, 2, 2, 2, 2, 2, 2, 2, 2, 2);
            x.ways(1, 2, 2, 2, 2, 2, 2, 2, 2, 2);
        }, Edge.NONE, "steer", 0, 3);
    }

    // ---- promise 30

    /** 1 dies in the next year and leaves 500; 2 is elder than 0, and has 600. */
    private static void threeAtADeath(Edge e) {
        e.call("person", 0, 30);
        e.call("person", 0, 69);
        e.call("person", 0, 40);
        e.call("set", 1, 2, 500);
        e.call("set", 2, 2, 600);
    }

    @Says(promise = 30, text = "The KIND as one of which one has most GOODS ON n YEARS (1 to 100; DEAD or not)")
    static void p30EachKindCanBeIt(Edge e) {
        threeAtADeath(e);
        e.due(0, "kind", 0, 1);
        e.call("be", 1, 0, 1);
        e.due(2, "kind", 0, 1);
        e.call("be", 1, 0, 2);
        e.due(0, "kind", 0, 1);
        e.call("set", 0, 4, 1);
        e.due(3, "kind", 0, 1);
        e.call("set", 0, 4, -1);
        e.call("set", 2, 2, 499);
        e.due(1, "kind", 0, 1);
        e.anew();
        threeAtADeath(e);
        e.call("be", 1, 8, 1);
        e.due(4, "kind", 0, 1);
        e.anew();
        threeAtADeath(e);
        e.call("be", 1, 5, 2);
        e.call("be", 2, 5, 2);
        e.call("be", 2, 0, 1);
        e.due(5, "kind", 0, 1);
        e.due(0, "of", 0, 0);
    }

    @Says(promise = 30, text = "(1 to 100; DEAD or not); of several the least")
    static void p30DeadNowDeadThenAndInTheLastYear(Edge e) {
        e.people(5, 0);
        e.due(0, "kind", 0, 100);
        e.call("set", 0, 5, 0);
        e.call("set", 0, 2, 999999);
        e.due(0, "kind", 0, 1);
        e.due(0, "kind", 0, 100);
        e.anew();
        e.people(0, 0);
        e.call("set", 0, 1, 0);
        e.call("set", 0, 3, 120);
        e.call("set", 1, 1, 20);
        e.call("set", 1, 3, 120);
        e.call("set", 1, 2, 500);
        e.call("person", 0, 1);
        e.call("set", 2, 3, 120);
        e.call("be", 1, 0, 1);
        e.due(0, "kind", 0, 99);
        e.due(1, "kind", 0, 100);
    }

    @Says(promise = 30, text = "BEYOND.")
    static void p30Beyond(Edge e) {
        e.due(Edge.BEYOND, "kind", 0, 1);
        for (int one : NO_ONE) {
            e.refused(Edge.BEYOND, "kind", one, 1);
        }
        for (int n : NO_SPAN) {
            e.refused(Edge.BEYOND, "kind", 0, n);
        }
    }

    @Says(promise = 30, text = "STATE: YEAR would be above 9999.")
    static void p30UpTo9999AndNoFurther(Edge e) {
        e.goTo(9899);
        e.people(0);
        e.due(0, "kind", 0, 100);
        e.call("years", 1);
        e.due(Edge.STATE, "kind", 0, 100);
        e.due(0, "kind", 0, 99);
        e.due(Edge.BEYOND, "kind", 1, 100);
        e.due(Edge.BEYOND, "kind", 0, 101);
        e.refusedAfter(EdgesOfWhatToChangeTest::liveInLate, Edge.STATE, "kind", 0, 48);
    }

    // ---- promise 31

    @Says(promise = 31, text = "The LAW by which GOODS of the richest LIVING one ON n YEARS (1 to 100) are least")
    static void p31EachLawCanBeIt(Edge e) {
        e.people(0, 0, 0);
        e.call("set", 0, 1, 69);
        e.call("set", 0, 2, 2);
        e.due(2, "fair", 1);
        e.call("set", 1, 2, 100);
        e.call("set", 0, 4, 2);
        e.due(1, "fair", 1);
        e.call("set", 0, 4, 1);
        e.call("set", 2, 2, 100);
        e.due(2, "fair", 1);
        e.call("set", 2, 2, 102);
        e.due(0, "fair", 1);
        e.call("let", 2);
        e.due(0, "fair", 1);
        e.due(2, "now", 1);
    }

    @Says(promise = 31, text = "ON n YEARS (1 to 100) are least")
    static void p31InTheFirstYearAndInTheLast(Edge e) {
        e.call("person", 0, 20);
        e.call("person", 0, 0);
        e.call("person", 0, 0);
        for (int one = 0; one < 3; one++) {
            e.call("set", one, 3, 120);
        }
        e.due(0, "fair", 1);
        e.due(0, "fair", 99);
        e.due(2, "fair", 100);
    }

    @Says(promise = 31, text = "(0, if nobody LIVES); of several the least")
    static void p31NobodyLives(Edge e) {
        e.due(0, "fair", 1);
        e.due(0, "fair", 100);
        e.people(0);
        e.call("let", 2);
        e.due(0, "fair", 100);
        e.call("set", 0, 2, 999999);
        e.due(0, "fair", 1);
        e.call("dies", 0);
        e.due(0, "fair", 1);
    }

    @Says(promise = 31, text = "GOODS of the richest LIVING one")
    static void p31DeadOnesArentRich(Edge e) {
        e.people(0, 0, 0, 0);
        e.call("set", 0, 1, 69);
        e.call("set", 3, 5, 0);
        e.call("set", 3, 2, 999999);
        e.due(2, "fair", 1);
    }

    @Says(promise = 31, text = "The LAW by which GOODS of the richest LIVING one ON n YEARS (1 to 100) are least")
    static void p31OneCoinBelow999999(Edge e) {
        e.people(0, 0, 0);
        e.call("set", 0, 1, 69);
        e.call("set", 0, 2, 2);
        e.call("set", 1, 2, 999997);
        e.due(2, "fair", 1);
        e.call("set", 1, 2, 999998);
        e.due(0, "fair", 1);
        e.call("set", 1, 2, 999999);
        e.due(0, "fair", 1);
    }

    @Says(promise = 31, text = "BEYOND.")
    static void p31Beyond(Edge e) {
        for (int n : NO_SPAN) {
            e.refused(Edge.BEYOND, "fair", n);
        }
    }

    @Says(promise = 31, text = "STATE likewise.")
    static void p31UpTo9999AndNoFurther(Edge e) {
        e.goTo(9899);
        e.people(0);
        e.due(0, "fair", 100);
        e.call("years", 1);
        e.due(Edge.STATE, "fair", 100);
        e.due(0, "fair", 99);
        e.due(Edge.BEYOND, "fair", 101);
        e.due(Edge.BEYOND, "fair", 0);
        e.refusedAfter(EdgesOfWhatToChangeTest::liveInLate, Edge.STATE, "fair", 48);
    }

    // ---- promise 32

    @Says(promise = 32, text = "In how many of the 4096 WAYS in which one can have MARKS 0 to 5 (all else as it is) its HEIR "
        + "is another one.")
    static void p32From0To4096(Edge e) {
        e.people(0, 0);
        e.due(4096, "ways", 0, 1);
        e.people(0);
        e.due(4096, "ways", 0, 1);
        e.due(0, "ways", 0, 2);
        e.ways(2, 3, 3, 3, 3, 3, 3);
        e.call("set", 0, 5, 0);
        e.call("set", 1, 1, 31);
        long first = e.call("ways", 0, 1);
        e.due(4096 - first, "ways", 0, 2);
    }

    @Says(promise = 32, text = "MARKS 0 to 5 (all else as it is)")
    static void p32Marks0And5AreTriedMarks6To8Not(Edge e) {
        e.people(0, 0, 0);
        for (int m = 0; m < 6; m++) {
            e.call("be", 2, m, 3);
            e.due(1024, "ways", 0, 2);
            e.call("be", 2, m, 0);
        }
        for (int m = 6; m < 9; m++) {
            e.call("be", 2, m, 3);
            e.due(0, "ways", 0, 2);
            e.call("be", 0, m, 3);
            e.due(4096, "ways", 0, 2);
            e.call("be", 2, m, 0);
            e.call("be", 0, m, 0);
        }
        e.dueWays(0, 0, 0, 0, 0, 0, 0, 0, 0, 0);
    }

    @Says(promise = 32, text = "4096 WAYS")
    static void p32OneOfAllWays(Edge e) {
        e.people(0, 0, 0);
        e.ways(2, 1, 2, 3, 1, 2, 3, 1);
        e.call("mark", 6, 0, 5);
        e.due(1, "ways", 0, 2);
        e.due(4095, "ways", 0, 1);
    }

    @Says(promise = 32, text = "BEYOND (also one and the same).")
    static void p32Beyond(Edge e) {
        e.due(Edge.BEYOND, "ways", 0, 1);
        for (int[] w : NO_TWO) {
            e.refused(Edge.BEYOND, "ways", w[0], w[1]);
        }
    }

    @Says(promise = 32, text = "STATE: that one is DEAD.")
    static void p32ThatOneIsDead(Edge e) {
        e.people(0, 0);
        e.call("set", 0, 5, 0);
        e.due(4096, "ways", 0, 1);
        e.due(Edge.STATE, "ways", 1, 0);
        e.refused(Edge.STATE, "ways", 0, 2);
    }
}
