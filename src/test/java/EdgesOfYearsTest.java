/** The boundaries of promises 17 to 19, and of what section 1 says of DIES, LEAVES and a YEAR. */
public final class EdgesOfYearsTest {
    private static final int[] NO_ONE = {-1, 4, 12, Edge.MIN, Edge.MAX};

    public static void main(String[] args) throws Exception {
        Edge.run(EdgesOfYearsTest.class);
    }

    // ---- section 1: DIES, LEAVES

    @Says(promise = 0, text = "DIES: at the end of a YEAR in which its AGE comes to its TERM (1 to 120; 70 at first).")
    static void s1AtItsTermNotAYearAhead(Edge e) {
        int[][] cases = {{0, 1}, {0, 2}, {68, 70}, {69, 70}, {118, 120}, {119, 120}};
        for (int[] c : cases) {
            e.anew();
            e.call("person", 0, c[0]);
            e.call("set", 0, 3, c[1]);
            int years = c[1] - c[0];
            if (years > 1) {
                e.due(0, "years", years - 1);
                e.due(1, "of", 0, 5);
            }
            e.due(1, "years", 1);
            e.dueOf(0, 0, c[1], 0, c[1], -1, 0);
        }
    }

    @Says(promise = 0, text = "70 at first")
    static void s1TermIs70AtFirst(Edge e) {
        e.call("person", 0, 0);
        e.due(0, "years", 69);
        e.due(1, "years", 1);
        e.due(70, "of", 0, 1);
    }

    @Says(promise = 0, text = "LEAVES, if one DIES: by LAW 0 and 1 all its GOODS to its HEIR; by LAW 2 half (rounded up) to "
        + "its HEIR, the rest to the HEIR that there would be, if that one weren't LIVING")
    static void s1AllByLaw0And1HalvesByLaw2(Edge e) {
        int[] goods = {0, 1, 2, 3, 999989};
        for (int law = 0; law < 3; law++) {
            for (int left : goods) {
                e.anew();
                e.people(0, 0, 0, 0);
                e.call("let", law);
                e.call("set", 0, 2, left);
                e.due(1, "dies", 0);
                int half = left / 2;
                e.due(0, "of", 0, 2);
                e.due(10 + (law == 2 ? left - half : left), "of", 1, 2);
                e.due(10 + (law == 2 ? half : 0), "of", 2, 2);
                e.due(10, "of", 3, 2);
            }
        }
    }

    @Says(promise = 0, text = "the rest to the HEIR that there would be, if that one weren't LIVING")
    static void s1TheSecondHeirIsTheNextByLikenessAndAge(Edge e) {
        e.people(0, 0, 0, 0);
        e.call("let", 2);
        e.call("set", 2, 1, 99);
        e.call("be", 2, 0, 1);
        e.call("set", 3, 1, 31);
        e.due(3, "dies", 0);
        e.due(15, "of", 3, 2);
        e.due(15, "of", 1, 2);
        e.due(10, "of", 2, 2);
        e.due(1, "of", 3, 5);
    }

    @Says(promise = 0, text = "(if there is none: all to the HEIR)")
    static void s1ByLaw2WithOneHeirAlone(Edge e) {
        e.people(0, 0, 0);
        e.call("let", 2);
        e.call("set", 2, 5, 0);
        e.call("set", 0, 2, 7);
        e.due(1, "dies", 0);
        e.due(17, "of", 1, 2);
        e.due(10, "of", 2, 2);
    }

    @Says(promise = 0, text = "With no HEIR they are gone.")
    static void s1WithNoHeirTheyAreGone(Edge e) {
        for (int law = 0; law < 3; law++) {
            e.anew();
            e.people(0, 0);
            e.call("let", law);
            e.call("set", 1, 5, 0);
            e.due(-1, "dies", 0);
            e.due(0, "of", 0, 2);
            e.due(10, "of", 1, 2);
            e.due(0, "now", 3);
        }
    }

    @Says(promise = 0, text = "(GOODS of one are 999999 at most; more is gone.)")
    static void s1GoodsAre999999AtMost(Edge e) {
        int[][] cases = {{10, 999988, 999998}, {10, 999989, 999999}, {10, 999990, 999999}, {999999, 999999, 999999},
            {1, 999999, 999999}};
        for (int[] c : cases) {
            e.anew();
            e.people(0, 0, 0);
            e.call("set", 0, 2, c[0]);
            e.call("set", 1, 2, c[1]);
            e.due(1, "dies", 0);
            e.due(c[2], "of", 1, 2);
            e.due(10, "of", 2, 2);
        }
    }

    @Says(promise = 0, text = "more is gone")
    static void s1ByLaw2WhatIsTooMuchForOneHeirDoesntGoToTheOther(Edge e) {
        e.people(0, 0, 0);
        e.call("let", 2);
        e.call("set", 0, 2, 9);
        e.call("set", 1, 2, 999999);
        e.due(1, "dies", 0);
        e.due(999999, "of", 1, 2);
        e.due(14, "of", 2, 2);
        e.anew();
        e.people(0, 0, 0);
        e.call("let", 2);
        e.call("set", 0, 2, 9);
        e.call("set", 2, 2, 999996);
        e.due(1, "dies", 0);
        e.due(15, "of", 1, 2);
        e.due(999999, "of", 2, 2);
    }

    @Says(promise = 0, text = "Its own are 0 then.")
    static void s1ItsOwnAre0WithOrWithoutAnHeir(Edge e) {
        e.people(0, 0);
        e.call("set", 0, 2, 999999);
        e.call("set", 1, 2, 999999);
        e.due(1, "dies", 0);
        e.due(0, "of", 0, 2);
        e.due(-1, "dies", 1);
        e.due(0, "of", 1, 2);
    }

    // ---- section 1: A YEAR

    @Says(promise = 0, text = "A YEAR goes: (a) by numbers each LIVING one CHANGES (by how all are by then), and pays what "
        + "that COSTS.")
    static void s1WhoWentAheadIsSeenAsItIsByThen(Edge e) {
        e.people(1, 0, 1);
        e.call("set", 0, 2, 20);
        e.call("set", 1, 2, 19);
        e.ways(0, 2, 2);
        e.ways(1, 1, 1);
        e.ways(2, 1, 0);
        e.due(0, "of", 2, 6);
        e.due(0, "years", 1);
        e.dueWays(0, 1, 2);
        e.due(18, "of", 0, 2);
        e.dueWays(2, 1, 1);
        e.due(8, "of", 2, 2);
    }

    @Says(promise = 0, text = "by numbers each LIVING one CHANGES (by how all are by then)")
    static void s1WhoGoesLaterIsSeenAsItWas(Edge e) {
        e.people(3, 3, 0);
        e.call("set", 0, 4, 1);
        e.call("set", 1, 4, 2);
        e.call("be", 2, 0, 3);
        e.call("years", 1);
        e.due(0, "way", 0, 0);
        e.due(3, "way", 1, 0);
        e.due(10, "of", 0, 2);
        e.call("years", 1);
        e.due(3, "way", 0, 0);
    }

    @Says(promise = 0, text = "by numbers each LIVING one CHANGES")
    static void s1ADeadOneNeitherChangesNorPays(Edge e) {
        e.people(1, 0);
        e.call("be", 1, 0, 1);
        e.call("set", 0, 5, 0);
        e.call("years", 5);
        e.due(0, "way", 0, 0);
        e.dueOf(0, 1, 30, 10, 70, -1, 0);
    }

    @Says(promise = 0, text = "(b) AGE of each LIVING one is 1 more (120 at most).")
    static void s1AgeIs120AtMost(Edge e) {
        e.call("person", 0, 118);
        e.call("person", 0, 120);
        e.call("person", 0, 120);
        e.call("set", 0, 3, 120);
        e.call("set", 2, 5, 0);
        e.due(1, "years", 1);
        e.due(119, "of", 0, 1);
        e.due(120, "of", 1, 1);
        e.due(120, "of", 2, 1);
        e.due(1, "years", 1);
        e.due(120, "of", 0, 1);
    }

    @Says(promise = 0, text = "(c) by numbers each LIVING one whose AGE is its TERM or more DIES: it is DEAD first, then "
        + "LEAVES.")
    static void s1AboveItsTermOneDiesToo(Edge e) {
        e.call("person", 0, 120);
        e.call("person", 0, 90);
        e.call("set", 0, 3, 1);
        e.due(2, "years", 1);
        e.due(0, "now", 2);
        e.anew();
        e.call("person", 0, 120);
        e.call("set", 0, 3, 120);
        e.due(1, "years", 1);
    }

    @Says(promise = 0, text = "by numbers each LIVING one whose AGE is its TERM or more DIES")
    static void s1OfThoseWhoDieTogetherTheLaterGetsFromTheEarlierAlone(Edge e) {
        e.call("person", 0, 69);
        e.call("person", 0, 69);
        e.call("person", 0, 30);
        e.call("set", 0, 2, 100);
        e.due(2, "years", 1);
        e.due(0, "of", 1, 2);
        e.due(120, "of", 2, 2);
        e.anew();
        e.call("person", 0, 30);
        e.call("person", 0, 69);
        e.call("person", 0, 69);
        e.call("set", 2, 2, 100);
        e.due(2, "years", 1);
        e.due(120, "of", 0, 2);
    }

    @Says(promise = 0, text = "(c) by numbers each LIVING one whose AGE is its TERM or more DIES")
    static void s1HeirsGoByAgesAsTheyAreByThen(Edge e) {
        e.call("person", 0, 69);
        e.call("person", 0, 119);
        e.call("person", 0, 120);
        e.call("set", 1, 3, 120);
        e.call("set", 2, 3, 120);
        e.due(2, "heir", 0);
        e.due(1, "gets", 0);
    }

    @Says(promise = 0, text = "Then YEAR is one more.")
    static void s1YearIsOneMoreWithOrWithoutPeople(Edge e) {
        e.due(0, "years", 1);
        e.due(1, "now", 0);
        e.people(0);
        e.due(0, "years", 2);
        e.due(3, "now", 0);
    }

    // ---- promise 17

    @Says(promise = 17, text = "n YEARS go (1 to 100): how many DIE in them.")
    static void p17From1To100(Edge e) {
        e.call("person", 0, 0);
        e.due(0, "years", 1);
        e.due(1, "now", 0);
        e.due(1, "years", 100);
        e.due(101, "now", 0);
    }

    @Says(promise = 17, text = "how many DIE in them")
    static void p17FromNobodyToAllTwelve(Edge e) {
        e.twelve(0, 68);
        e.due(0, "years", 1);
        e.due(12, "years", 1);
        e.due(0, "now", 2);
        e.due(0, "now", 3);
        e.due(0, "years", 1);
    }

    @Says(promise = 17, text = "how many DIE in them")
    static void p17DeathsOfTheFirstAndTheLastYearCount(Edge e) {
        int[] ages = {69, 68, 60, 59};
        for (int age : ages) {
            e.call("person", 0, age);
        }
        e.due(3, "years", 10);
        e.due(8, "living", 0);
    }

    @Says(promise = 17, text = "BEYOND.")
    static void p17Beyond(Edge e) {
        for (int n : new int[] {0, -1, 101, Edge.MIN, Edge.MAX}) {
            e.refused(Edge.BEYOND, "years", n);
        }
    }

    @Says(promise = 17, text = "STATE: YEAR would be above 9999.")
    static void p17UpTo9999AndNoFurther(Edge e) {
        e.goTo(9899);
        e.call("image");
        e.due(0, "years", 100);
        e.due(9999, "now", 0);
        e.due(Edge.STATE, "years", 1);
        e.due(Edge.STATE, "years", 100);
        e.due(0, "undo");
        e.due(0, "years", 1);
        e.due(Edge.STATE, "years", 100);
        e.due(9900, "now", 0);
        e.due(0, "years", 99);
    }

    @Says(promise = 17, text = {"BEYOND.", "STATE: YEAR would be above 9999."})
    static void p17BeyondIsAskedAheadOfState(Edge e) {
        e.goTo(9999);
        e.due(Edge.BEYOND, "years", 101);
        e.due(Edge.BEYOND, "years", 0);
        e.due(Edge.STATE, "years", 100);
    }

    @Says(promise = 17, text = "STATE: YEAR would be above 9999.")
    static void p17StateChangesNothing(Edge e) {
        e.refusedAfter(x -> {
            x.goTo(9950);
            x.liveIn();
        }, Edge.STATE, "years", 48);
    }

    // ---- promise 18

    @Says(promise = 18, text = "One DIES now, and LEAVES: who is its HEIR (-1: nobody).")
    static void p18FromNobodyToTheLastOfTwelve(Edge e) {
        e.twelve(0, 30);
        e.call("set", 11, 1, 31);
        for (int one = 0; one < 11; one++) {
            e.due(11, "dies", one);
        }
        e.due(120, "of", 11, 2);
        e.due(-1, "dies", 11);
        e.due(0, "of", 11, 2);
        e.due(0, "now", 2);
    }

    @Says(promise = 18, text = "One DIES now, and LEAVES")
    static void p18NeitherAgeNorYearGoesOn(Edge e) {
        e.call("person", 0, 0);
        e.call("person", 1, 30);
        e.call("be", 0, 0, 3);
        e.due(1, "dies", 0);
        e.dueOf(0, 0, 0, 0, 70, -1, 0);
        e.dueOf(1, 1, 30, 20, 70, -1, 1);
        e.dueWays(0, 3);
        e.dueWays(1, 0);
        e.due(0, "now", 0);
    }

    @Says(promise = 18, text = "BEYOND.")
    static void p18Beyond(Edge e) {
        e.due(Edge.BEYOND, "dies", 0);
        for (int one : NO_ONE) {
            e.refused(Edge.BEYOND, "dies", one);
        }
    }

    @Says(promise = 18, text = "STATE: it is DEAD.")
    static void p18WhoIsDeadDoesntDie(Edge e) {
        e.people(0, 0);
        e.call("set", 0, 5, 0);
        e.due(Edge.STATE, "dies", 0);
        e.due(10, "of", 0, 2);
        e.due(10, "of", 1, 2);
        e.call("set", 0, 5, 1);
        e.due(1, "dies", 0);
        e.due(Edge.STATE, "dies", 0);
        e.refused(Edge.STATE, "dies", 2);
    }

    // ---- promise 19

    @Says(promise = 19, text = "What 0 YEAR, 1 LAW, 2 how many LIVE, 3 GOODS of all LIVING together.")
    static void p19TheLeastAndTheGreatestOfEach(Edge e) {
        for (int what = 0; what < 4; what++) {
            e.due(0, "now", what);
        }
        e.goTo(9999);
        e.call("let", 2);
        e.twelve(0, 0);
        for (int one = 0; one < 12; one++) {
            e.call("set", one, 2, 999999);
        }
        int[] most = {9999, 2, 12, 12 * 999999};
        for (int what = 0; what < 4; what++) {
            e.due(most[what], "now", what);
        }
    }

    @Says(promise = 19, text = "2 how many LIVE, 3 GOODS of all LIVING together")
    static void p19DeadOnesDontCount(Edge e) {
        e.people(0, 0);
        e.call("set", 0, 5, 0);
        e.due(1, "now", 2);
        e.due(10, "now", 3);
        e.call("set", 1, 5, 0);
        e.due(0, "now", 2);
        e.due(0, "now", 3);
    }

    @Says(promise = 19, text = "BEYOND.")
    static void p19Beyond(Edge e) {
        for (int what : new int[] {-1, 4, Edge.MIN, Edge.MAX}) {
            e.refused(Edge.BEYOND, "now", what);
        }
    }
}
