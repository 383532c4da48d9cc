/** The boundaries of promises 11 to 16, and of what section 1 says of LIKE, SAME, HEIR, AIMS and CHANGES. */
public final class EdgesOfLikenessTest {
    private static final int[][] NO_TWO = {{0, 0}, {3, 3}, {-1, 0}, {0, -1}, {4, 0}, {0, 4}, {4, 4}, {-1, -1}, {4, 5},
        {Edge.MIN, 0}, {0, Edge.MIN}, {Edge.MAX, 0}, {0, Edge.MAX}};
    private static final int[] NO_ONE = {-1, 4, 12, Edge.MIN, Edge.MAX};

    public static void main(String[] args) throws Exception {
        Edge.run(EdgesOfLikenessTest.class);
    }

    // ---- section 1: LIKE, SAME, HEIR

    @Says(promise = 0, text = "LIKE of two, from the one's side: what the MARKS WEIGH, together, in which the other one is "
        + "the SAME")
    static void s1EachMarkCountsWhatItWeighs(Edge e) {
        e.people(0, 0);
        for (int m = 0; m < 9; m++) {
            e.call("mark", m, 0, m);
        }
        for (int m = 0; m < 9; m++) {
            e.call("be", 0, m, 3);
            e.due(36 - m, "like", 0, 1);
            e.call("be", 1, m, 3);
            e.due(36, "like", 0, 1);
        }
    }

    @Says(promise = 0, text = "by LAW 1 5 more, if that is the CHILD of the one.")
    static void s1FiveMoreByLaw1ForTheChildAlone(Edge e) {
        e.people(0, 0, 0);
        e.call("set", 0, 4, 2);
        int[] more = {0, 5, 0};
        for (int law = 0; law < 3; law++) {
            e.call("let", law);
            e.due(9 + more[law], "like", 0, 2);
            e.due(9, "like", 0, 1);
            e.due(9, "like", 2, 0);
        }
        e.call("let", 1);
        e.call("set", 0, 4, -1);
        e.due(9, "like", 0, 2);
    }

    @Says(promise = 0, text = "SAME: if it has the same WAY; a SWORN one is the SAME in MARK 8, whatever WAYS.")
    static void s1ASwornOneIsTheSameInMark8WhateverWays(Edge e) {
        e.people(0, 4);
        for (int a = 0; a < 4; a++) {
            for (int b = 0; b < 4; b++) {
                e.call("be", 0, 8, a);
                e.call("be", 1, 8, b);
                e.due(9, "like", 0, 1);
                e.due(a == b ? 9 : 8, "like", 1, 0);
            }
        }
    }

    @Says(promise = 0, text = "a SWORN one is the SAME in MARK 8")
    static void s1AnOathIsNothingInOtherMarksAndOfOtherKinds(Edge e) {
        e.people(0, 4);
        for (int m = 0; m < 8; m++) {
            e.call("be", 1, m, 1);
            e.due(8, "like", 0, 1);
            e.call("be", 1, m, 0);
        }
        e.call("be", 1, 8, 1);
        for (int kind = 0; kind < 6; kind++) {
            e.call("turn", 1, kind);
            e.due(kind == 4 ? 9 : 8, "like", 0, 1);
        }
    }

    @Says(promise = 0, text = "HEIR of one: of all LIVING others the one that is most LIKE from the one's side; of several "
        + "the eldest (AGE), then the least number.")
    static void s1OneMoreInLikenessIsMoreThanAge(Edge e) {
        e.call("person", 0, 50);
        e.call("person", 0, 0);
        e.call("person", 0, 120);
        e.call("be", 2, 0, 1);
        e.due(1, "heir", 0);
        e.call("mark", 0, 0, 0);
        e.due(2, "heir", 0);
        e.call("mark", 0, 0, 1);
        e.call("be", 1, 8, 1);
        e.due(2, "heir", 0);
    }

    @Says(promise = 0, text = "of several the eldest (AGE), then the least number")
    static void s1OneYearMoreIsMoreThanNumber(Edge e) {
        e.call("person", 0, 50);
        e.call("person", 0, 119);
        e.call("person", 0, 120);
        e.due(2, "heir", 0);
        e.call("set", 1, 1, 120);
        e.due(1, "heir", 0);
        e.call("set", 1, 1, 0);
        e.call("set", 2, 1, 0);
        e.due(1, "heir", 0);
        e.call("set", 2, 1, 1);
        e.due(2, "heir", 0);
    }

    @Says(promise = 0, text = "HEIR of one: of all LIVING others")
    static void s1LikeInNothingTheyAreHeirsYet(Edge e) {
        e.call("person", 0, 0);
        e.call("person", 0, 0);
        e.call("person", 0, 0);
        e.ways(0, 1, 1, 1, 1, 1, 1, 1, 1, 1);
        e.due(0, "like", 0, 1);
        e.due(1, "heir", 0);
        e.due(2, "heir", 1);
    }

    // ---- section 1: AIMS

    @Says(promise = 0, text = "AIMS at whom: PERSON: nobody.")
    static void s1APersonAimsAtNobody(Edge e) {
        aimsAtNobody(e, 0);
    }

    @Says(promise = 0, text = "SHUNNER: as PERSON.")
    static void s1AShunnerAimsAtNobody(Edge e) {
        aimsAtNobody(e, 2);
    }

    private static void aimsAtNobody(Edge e, int kind) {
        e.people(kind, 0);
        e.due(-1, "of", 0, 6);
        e.call("set", 0, 4, 1);
        e.call("set", 1, 2, 999999);
        e.due(-1, "of", 0, 6);
        e.due(0, "watched", 1);
    }

    @Says(promise = 0, text = "COPIER: the LIVING other one with most GOODS (of several the least number).")
    static void s1ACopierAimsAtTheRichestLivingOtherOne(Edge e) {
        aimsAtTheRichest(e, 1);
    }

    @Says(promise = 0, text = "SWORN: as COPIER.")
    static void s1ASwornOneAimsAtTheRichestLivingOtherOne(Edge e) {
        aimsAtTheRichest(e, 4);
    }

    private static void aimsAtTheRichest(Edge e, int kind) {
        e.people(0, kind, 0, 0);
        e.call("set", 0, 2, 0);
        e.call("set", 2, 2, 0);
        e.call("set", 3, 2, 0);
        e.due(0, "of", 1, 6);
        e.call("set", 3, 2, 1);
        e.due(3, "of", 1, 6);
        e.call("set", 2, 2, 1);
        e.due(2, "of", 1, 6);
        e.call("set", 2, 5, 0);
        e.due(3, "of", 1, 6);
        e.call("set", 3, 5, 0);
        e.call("set", 0, 5, 0);
        e.due(-1, "of", 1, 6);
    }

    @Says(promise = 0, text = "KIND ONE: its CHILD, if that is LIVING.")
    static void s1AKindOneAimsAtNobodyButALivingChild(Edge e) {
        e.people(3, 0, 0);
        e.due(-1, "of", 0, 6);
        e.call("set", 0, 4, 2);
        e.due(2, "of", 0, 6);
        e.call("set", 2, 5, 0);
        e.due(-1, "of", 0, 6);
        e.call("set", 2, 5, 1);
        e.due(2, "of", 0, 6);
    }

    @Says(promise = 0, text = "TWIN: as KIND ONE; if that is nobody, its HEIR.")
    static void s1ATwinAimsAtItsHeirWithNoLivingChild(Edge e) {
        e.people(5, 0, 0);
        e.due(1, "of", 0, 6);
        e.call("set", 0, 4, 2);
        e.due(2, "of", 0, 6);
        e.call("set", 2, 5, 0);
        e.due(1, "of", 0, 6);
        e.call("set", 1, 5, 0);
        e.due(-1, "of", 0, 6);
    }

    // ---- section 1: CHANGES

    @Says(promise = 0, text = "the least MARK in which its WAY is unlike that of whom it AIMS at, to that WAY "
        + "(of a SWORN one not MARK 8)")
    static void s1FromMark0ToMark8ToThatWay(Edge e) {
        for (int kind : new int[] {1, 3, 4, 5}) {
            e.anew();
            e.people(kind, 0);
            e.call("set", 0, 4, 1);
            e.call("set", 0, 2, 100);
            e.ways(1, 3, 2, 1, 3, 2, 1, 3, 2, 1);
            for (int m = 0; m < 8; m++) {
                e.due(m, "changes", 0);
                e.call("years", 1);
            }
            e.due(kind == 4 ? Edge.NONE : 8, "changes", 0);
            e.call("years", 1);
            e.dueWays(0, 3, 2, 1, 3, 2, 1, 3, 2, kind == 4 ? 0 : 1);
            e.due(kind == 4 ? 84 : 82, "of", 0, 2);
        }
    }

    @Says(promise = 0, text = "none, if it AIMS at nobody, or is like it in all")
    static void s1NobodyToCopyAndNothingToCopy(Edge e) {
        for (int kind : new int[] {0, 1, 3, 4, 5}) {
            e.anew();
            e.people(kind);
            e.due(Edge.NONE, "changes", 0);
            e.people(0);
            e.call("set", 0, 4, 1);
            e.due(Edge.NONE, "changes", 0);
            e.call("years", 1);
            e.due(10, "of", 0, 2);
        }
    }

    @Says(promise = 0, text = "SHUNNER: the least MARK in which its WAY is like that of its HEIR, to the next WAY "
        + "(0 behind 3); none, if it has no HEIR.")
    static void s1AShunnersWayComesRoundTo0(Edge e) {
        e.people(2, 0);
        e.call("set", 0, 2, 100);
        e.ways(0, 1, 1, 1, 1, 1, 1, 1, 1, 0);
        for (int v = 0; v < 4; v++) {
            e.call("be", 1, 8, v);
            e.due(8, "changes", 0);
            e.call("years", 1);
            e.due((v + 1) % 4, "way", 0, 8);
            e.due(Edge.NONE, "changes", 0);
        }
        e.due(92, "of", 0, 2);
    }

    @Says(promise = 0, text = {"SHUNNER: the least MARK", "none, if it has no HEIR"})
    static void s1AShunnerTurnsMark0FirstAndNoneWithNoHeir(Edge e) {
        e.people(2);
        e.due(Edge.NONE, "changes", 0);
        e.people(0);
        e.due(0, "changes", 0);
        e.call("be", 0, 0, 3);
        e.due(1, "changes", 0);
        e.call("set", 1, 5, 0);
        e.due(Edge.NONE, "changes", 0);
        e.call("years", 1);
        e.dueWays(0, 3, 0, 0, 0, 0, 0, 0, 0, 0);
        e.due(10, "of", 0, 2);
    }

    @Says(promise = 0, text = "It doesn't change, if its GOODS are less than that MARK COSTS.")
    static void s1JustEnoughAndOneTooLittle(Edge e) {
        for (int kind : new int[] {1, 2, 3, 4, 5}) {
            e.anew();
            e.people(kind, 0);
            e.call("set", 0, 4, 1);
            e.call("mark", 0, 1, 99);
            if (kind != 2) {
                e.ways(1, 1, 1);
            }
            e.call("set", 0, 2, 98);
            e.due(Edge.NONE, "changes", 0);
            e.call("years", 1);
            e.dueWays(0, 0, 0, 0);
            e.due(98, "of", 0, 2);
            e.call("set", 0, 2, 99);
            e.due(0, "changes", 0);
            e.call("years", 1);
            e.dueWays(0, 1, 0, 0);
            e.due(0, "of", 0, 2);
        }
    }

    @Says(promise = 0, text = "It doesn't change, if its GOODS are less than that MARK COSTS.")
    static void s1WhatCostsNothingIsForThoseWithNothing(Edge e) {
        e.people(1, 0);
        e.call("mark", 0, 1, 0);
        e.call("be", 1, 0, 2);
        e.call("set", 0, 2, 0);
        e.due(0, "changes", 0);
        e.call("years", 1);
        e.due(2, "way", 0, 0);
        e.due(0, "of", 0, 2);
    }

    // ---- promises 11 and 12

    @Says(promise = 11, text = "LIKE of two, from the first one's side (as if the other one were its heir).")
    static void p11From0To86(Edge e) {
        e.people(0, 0);
        e.ways(1, 1, 1, 1, 1, 1, 1, 1, 1, 1);
        e.due(0, "like", 0, 1);
        e.ways(0, 1, 1, 1, 1, 1, 1, 1, 1, 1);
        for (int m = 0; m < 9; m++) {
            e.call("mark", m, 0, 9);
        }
        e.due(81, "like", 0, 1);
        e.call("set", 0, 4, 1);
        e.call("let", 1);
        e.due(86, "like", 0, 1);
        e.due(81, "like", 1, 0);
        for (int m = 0; m < 9; m++) {
            e.call("mark", m, 0, 0);
        }
        e.due(5, "like", 0, 1);
        e.due(0, "like", 1, 0);
    }

    @Says(promise = 11, text = "(as if the other one were its heir)")
    static void p11OfDeadOnesToo(Edge e) {
        e.people(0, 4);
        e.call("be", 1, 8, 1);
        e.call("let", 1);
        e.call("set", 0, 4, 1);
        e.call("set", 1, 5, 0);
        e.due(14, "like", 0, 1);
        e.call("set", 0, 5, 0);
        e.due(14, "like", 0, 1);
        e.due(8, "like", 1, 0);
    }

    @Says(promise = 11, text = "BEYOND (also one and the same).")
    static void p11Beyond(Edge e) {
        e.due(Edge.BEYOND, "like", 0, 1);
        e.call("person", 0, 0);
        e.due(Edge.BEYOND, "like", 0, 0);
        e.due(Edge.BEYOND, "like", 0, 1);
        for (int[] w : NO_TWO) {
            e.refused(Edge.BEYOND, "like", w[0], w[1]);
        }
    }

    @Says(promise = 12, text = "In how many MARKS two have the same WAY.")
    static void p12From0To9(Edge e) {
        e.people(4, 4);
        e.due(9, "same", 0, 1);
        for (int m = 0; m < 9; m++) {
            e.call("be", 1, m, 1 + m % 3);
            e.due(8 - m, "same", 0, 1);
            e.due(8 - m, "same", 1, 0);
        }
        e.call("set", 0, 5, 0);
        e.call("set", 1, 5, 0);
        e.due(0, "same", 0, 1);
    }

    @Says(promise = 12, text = "In how many MARKS two have the same WAY.")
    static void p12NeitherOathsNorWeightsNorChildrenCount(Edge e) {
        e.people(4, 4);
        e.call("be", 1, 8, 3);
        e.call("let", 1);
        e.call("set", 0, 4, 1);
        for (int m = 0; m < 9; m++) {
            e.call("mark", m, 0, m % 2 * 9);
        }
        e.due(8, "same", 0, 1);
    }

    @Says(promise = 12, text = "BEYOND likewise.")
    static void p12Beyond(Edge e) {
        e.due(Edge.BEYOND, "same", 0, 1);
        for (int[] w : NO_TWO) {
            e.refused(Edge.BEYOND, "same", w[0], w[1]);
        }
    }

    // ---- promises 13 to 15

    @Says(promise = 13, text = "HEIR of one (DEAD or LIVING).")
    static void p13TheLastOfTwelve(Edge e) {
        e.twelve(0, 120);
        e.call("be", 0, 8, 3);
        e.call("be", 11, 8, 3);
        e.due(11, "heir", 0);
        e.due(0, "heir", 11);
        e.due(2, "heir", 1);
        e.call("set", 0, 5, 0);
        e.due(11, "heir", 0);
        e.due(1, "heir", 11);
        e.call("set", 11, 5, 0);
        e.due(1, "heir", 0);
    }

    @Says(promise = 13, text = "BEYOND.")
    static void p13Beyond(Edge e) {
        e.due(Edge.BEYOND, "heir", 0);
        for (int one : NO_ONE) {
            e.refused(Edge.BEYOND, "heir", one);
        }
    }

    @Says(promise = 13, text = "NONE.")
    static void p13NobodyElseLives(Edge e) {
        e.people(0);
        e.due(Edge.NONE, "heir", 0);
        e.call("set", 0, 5, 0);
        e.due(Edge.NONE, "heir", 0);
        e.people(0);
        e.due(1, "heir", 0);
        e.due(Edge.NONE, "heir", 1);
        e.call("set", 1, 5, 0);
        e.due(Edge.NONE, "heir", 0);
        e.due(Edge.NONE, "heir", 1);
        e.refusedAfter(x -> {
            x.liveIn();
            x.call("dies", 0);
            x.call("dies", 1);
        }, Edge.NONE, "heir", 3);
    }

    @Says(promise = 14, text = "LIVING ones whose HEIR one is, as a set.")
    static void p14FromNobodyToAllOthers(Edge e) {
        e.people(0);
        e.due(0, "heirOf", 0);
        e.people(0, 0, 0, 0, 0, 0, 0, 0, 0, 0, 0);
        e.due(4094, "heirOf", 0);
        e.due(1, "heirOf", 1);
        e.due(0, "heirOf", 2);
        e.due(0, "heirOf", 11);
        e.call("set", 11, 1, 31);
        e.due(2047, "heirOf", 11);
        e.due(2048, "heirOf", 0);
    }

    @Says(promise = 14, text = "LIVING ones whose HEIR one is, as a set.")
    static void p14NeitherOfNorByDeadOnes(Edge e) {
        e.people(0, 0, 0);
        e.call("set", 1, 5, 0);
        e.due(0, "heir", 1);
        e.due(4, "heirOf", 0);
        e.due(0, "heirOf", 1);
        e.due(1, "heirOf", 2);
        e.call("set", 0, 5, 0);
        e.due(0, "heirOf", 2);
    }

    @Says(promise = 14, text = "BEYOND.")
    static void p14Beyond(Edge e) {
        e.due(Edge.BEYOND, "heirOf", 0);
        for (int one : NO_ONE) {
            e.refused(Edge.BEYOND, "heirOf", one);
        }
    }

    @Says(promise = 15, text = "LIVING ones that AIM at one, as a set.")
    static void p15FromNobodyToAllOthers(Edge e) {
        e.people(1);
        e.due(0, "watched", 0);
        e.people(1, 1, 1, 1, 1, 1, 1, 1, 1, 1, 1);
        e.due(4094, "watched", 0);
        e.due(1, "watched", 1);
        e.due(0, "watched", 2);
        e.call("set", 11, 2, 11);
        e.due(2047, "watched", 11);
        e.due(2048, "watched", 0);
    }

    @Says(promise = 15, text = "LIVING ones that AIM at one, as a set.")
    static void p15NeitherByNorAtDeadOnes(Edge e) {
        e.people(0, 1, 3, 5, 4);
        e.call("set", 2, 4, 0);
        e.call("set", 3, 4, 0);
        e.due(30, "watched", 0);
        for (int one = 1; one < 5; one++) {
            e.call("set", one, 5, 0);
            e.due(0, "of", one, 6);
            e.due(30 & ~((2 << one) - 1), "watched", 0);
        }
        e.call("set", 4, 5, 1);
        e.call("set", 0, 5, 0);
        e.due(0, "watched", 0);
    }

    @Says(promise = 15, text = "BEYOND.")
    static void p15Beyond(Edge e) {
        e.due(Edge.BEYOND, "watched", 0);
        for (int one : NO_ONE) {
            e.refused(Edge.BEYOND, "watched", one);
        }
    }

    // ---- promise 16

    @Says(promise = 16, text = "The MARK that one CHANGES in the next YEAR, if it goes first.")
    static void p16AsIfNobodyWentAheadOfIt(Edge e) {
        e.people(3, 3, 0);
        e.call("set", 0, 4, 2);
        e.call("set", 1, 4, 0);
        e.call("be", 2, 5, 2);
        e.due(5, "changes", 0);
        e.due(Edge.NONE, "changes", 1);
        e.call("years", 1);
        e.due(2, "way", 1, 5);
    }

    @Says(promise = 16, text = "The MARK that one CHANGES in the next YEAR, if it goes first.")
    static void p16FromMark0ToMark8AndAskingChangesNothing(Edge e) {
        e.people(1, 0);
        e.call("be", 1, 8, 3);
        e.due(8, "changes", 0);
        e.due(8, "changes", 0);
        e.call("be", 1, 0, 3);
        e.due(0, "changes", 0);
        e.dueWays(0, 0, 0, 0, 0, 0, 0, 0, 0, 0);
        e.due(10, "of", 0, 2);
    }

    @Says(promise = 16, text = "BEYOND.")
    static void p16Beyond(Edge e) {
        e.due(Edge.BEYOND, "changes", 0);
        for (int one : NO_ONE) {
            e.refused(Edge.BEYOND, "changes", one);
        }
    }

    @Says(promise = 16, text = "NONE: none (also of a DEAD one).")
    static void p16OfADeadOneThatWouldChange(Edge e) {
        for (int kind : new int[] {1, 2, 3, 4, 5}) {
            e.anew();
            e.people(kind, 0);
            e.call("set", 0, 4, 1);
            e.call("be", 1, 3, 1);
            e.due(kind == 2 ? 0 : 3, "changes", 0);
            e.call("set", 0, 5, 0);
            e.due(Edge.NONE, "changes", 0);
        }
        e.refused(Edge.NONE, "changes", 2);
    }
}
