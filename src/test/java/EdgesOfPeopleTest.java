/** The boundaries of promises 1 to 10, and of what section 1 says of MARKS, LAW, YEAR and PEOPLE. */
public final class EdgesOfPeopleTest {
    public static void main(String[] args) throws Exception {
        Edge.run(EdgesOfPeopleTest.class);
    }

    // ---- section 1

    @Says(promise = 0, text = {"MARKS 0 to 8", "each in WAYS 0 to 3"})
    static void s1NineMarksInFourWaysEach(Edge e) {
        e.people(0);
        for (int m = 0; m < 9; m++) {
            for (int v = 3; v >= 0; v--) {
                e.due(v == 3 ? 0 : v + 1, "be", 0, m, v);
            }
            e.due(Edge.BEYOND, "be", 0, m, 4);
            e.due(Edge.BEYOND, "be", 0, m, -1);
        }
        e.due(Edge.BEYOND, "be", 0, 9, 0);
        e.due(Edge.BEYOND, "be", 0, -1, 0);
    }

    @Says(promise = 0, text = "each WEIGHS (0 to 9; 1 at first) and COSTS to change (0 to 99 coins; 2 at first)")
    static void s1EachMarkWeighs1AndCosts2AtFirst(Edge e) {
        e.due(9, "count", 2);
        e.people(0, 1);
        for (int m = 0; m < 9; m++) {
            e.call("be", 0, m, 1);
            e.due(8, "like", 0, 1);
            e.call("set", 1, 2, 1);
            e.due(Edge.NONE, "changes", 1);
            e.call("set", 1, 2, 2);
            e.due(m, "changes", 1);
            e.call("be", 1, m, 1);
        }
    }

    @Says(promise = 0, text = "LAW: 0 to 2 (0 at first).")
    static void s1LawIs0AtFirst(Edge e) {
        e.due(0, "now", 1);
        e.due(0, "let", 0);
    }

    @Says(promise = 0, text = "YEAR: 0 at first (9999 at most).")
    static void s1YearIs0AtFirstAnd9999AtMost(Edge e) {
        e.due(0, "now", 0);
        e.goTo(9999);
        e.due(Edge.STATE, "years", 1);
        e.due(9999, "now", 0);
    }

    @Says(promise = 0, text = "PEOPLE 0, 1, .. (at most 12)")
    static void s1TwelvePeopleByCallsAndByTexts(Edge e) {
        e.people(0, 0, 0, 0, 0);
        e.feed("kin;kin;kin;kin");
        e.due(4, "valley");
        e.due(9, "person", 0, 1);
        e.due(10, "person", 0, 1);
        e.feed("kin");
        e.due(1, "valley");
        e.due(12, "count", 0);
        e.due(Edge.FULL, "person", 0, 1);
        e.feed("kin");
        e.due(-1, "valley");
        e.due(12, "count", 0);
    }

    @Says(promise = 0, text = "1 COPIER under PERSON, 2 SHUNNER under PERSON, 3 KIND ONE under PERSON, "
        + "4 SWORN under COPIER, 5 TWIN under KIND ONE")
    static void s1KindsUnderKinds(Edge e) {
        int[] under = {1, 3, 5, 9, 19, 41};
        for (int kind = 0; kind < 6; kind++) {
            e.people(kind);
            for (int as = 0; as < 6; as++) {
                e.due((under[kind] >> as & 1) != 0 ? 10 : Edge.KIND, "as", kind, as);
            }
        }
    }

    @Says(promise = 0, text = "each with a WAY of each MARK (0 at first), AGE (0 to 120), "
        + "GOODS (coins, 0 to 999999; 10 at first), LIVING or DEAD, and a CHILD (another one, or none, at first).")
    static void s1WhatOneIsLikeAtFirst(Edge e) {
        e.call("person", 3, 120);
        e.dueOf(0, 3, 120, 10, 70, -1, 1);
        e.dueWays(0, 0, 0, 0, 0, 0, 0, 0, 0, 0);
        e.feed("sworn");
        e.call("valley");
        e.dueOf(1, 4, 0, 10, 70, -1, 1);
        e.dueWays(1, 0, 0, 0, 0, 0, 0, 0, 0, 0);
    }

    @Says(promise = 0, text = "each with a WAY of each MARK (0 at first)")
    static void s1ANewOneHasNothingOfOneThatUndoTookBack(Edge e) {
        e.call("image");
        e.people(0, 0);
        e.ways(1, 3, 3, 3, 3, 3, 3, 3, 3, 3);
        e.call("set", 1, 2, 999);
        e.call("set", 1, 3, 3);
        e.call("set", 1, 4, 0);
        e.call("set", 1, 5, 0);
        e.due(0, "undo");
        e.people(0, 0);
        e.dueOf(1, 0, 30, 10, 70, -1, 1);
        e.dueWays(1, 0, 0, 0, 0, 0, 0, 0, 0, 0);
    }

    // ---- promise 1

    @Says(promise = 1, text = "Nobody in THE VALLEY")
    static void p01NobodyIsThere(Edge e) {
        e.due(0, "count", 0);
        e.due(0, "count", 3);
        e.due(0, "now", 2);
        e.due(0, "now", 3);
        e.due(Edge.BEYOND, "of", 0, 0);
        e.due(Edge.BEYOND, "heir", 0);
        e.due(0, "living", 0);
        e.due(0, "living", 100);
        e.due(Edge.NONE, "rich", 0);
        e.due(0, "fair", 1);
        e.due(0, "years", 100);
        e.due(0, "person", 0, 0);
    }

    @Says(promise = 1, text = "THE TAPE is empty")
    static void p01TheTapeIsEmpty(Edge e) {
        e.due(0, "count", 1);
        e.due(0, "wipe");
        e.due(-1, "valley");
        e.due(1, "feed", 'k', 1);
    }

    @Says(promise = 1, text = "no image is kept")
    static void p01NoImageIsKept(Edge e) {
        e.due(0, "tear");
        e.due(Edge.NONE, "undo");
    }

    @Says(promise = 1, text = "Nobody in THE VALLEY; THE TAPE is empty, no image is kept.")
    static void p01AnotherObjectHasNothingOfThisOne(Edge e) {
        e.liveIn();
        e.anew();
        e.due(0, "count", 0);
        e.due(0, "count", 1);
        e.due(9, "count", 2);
        e.due(0, "now", 0);
        e.due(0, "now", 1);
        e.due(0, "tear");
        e.due(0, "status", -1);
        e.due(Edge.MISSING, "read", 0);
        e.people(0);
        e.dueWays(0, 0, 0, 0, 0, 0, 0, 0, 0, 0);
    }

    // ---- promise 2

    @Says(promise = 2, text = "What a MARK WEIGHS (what 0), COSTS (1) becomes v: what it was.")
    static void p02WeighsFrom0To9(Edge e) {
        for (int m = 0; m < 9; m++) {
            e.due(1, "mark", m, 0, 0);
            e.due(0, "mark", m, 0, 9);
            e.due(Edge.BEYOND, "mark", m, 0, 10);
            e.due(Edge.BEYOND, "mark", m, 0, -1);
            e.due(9, "mark", m, 0, 9);
        }
        e.due(81, "count", 2);
    }

    @Says(promise = 2, text = "What a MARK WEIGHS (what 0), COSTS (1) becomes v: what it was.")
    static void p02CostsFrom0To99(Edge e) {
        for (int m = 0; m < 9; m++) {
            e.due(2, "mark", m, 1, 0);
            e.due(0, "mark", m, 1, 99);
            e.due(Edge.BEYOND, "mark", m, 1, 100);
            e.due(Edge.BEYOND, "mark", m, 1, -1);
            e.due(99, "mark", m, 1, 10);
        }
        e.due(9, "count", 2);
    }

    @Says(promise = 2, text = "What a MARK WEIGHS (what 0), COSTS (1) becomes v")
    static void p02WhatItWeighsIsNotWhatItCosts(Edge e) {
        e.due(1, "mark", 8, 0, 7);
        e.due(2, "mark", 8, 1, 77);
        e.due(7, "mark", 8, 0, 6);
        e.due(77, "mark", 8, 1, 66);
        e.due(1, "mark", 7, 0, 1);
        e.due(2, "mark", 7, 1, 2);
    }

    @Says(promise = 2, text = "BEYOND.")
    static void p02Beyond(Edge e) {
        int[][] wrong = {{-1, 0, 1}, {9, 0, 1}, {Edge.MIN, 1, 1}, {Edge.MAX, 1, 1}, {0, -1, 1}, {0, 2, 1},
            {0, Edge.MIN, 1}, {0, Edge.MAX, 1}, {8, 0, -1}, {8, 0, 10}, {8, 0, 99}, {8, 0, Edge.MIN}, {8, 0, Edge.MAX},
            {0, 1, -1}, {0, 1, 100}, {0, 1, Edge.MIN}, {0, 1, Edge.MAX}};
        for (int[] w : wrong) {
            e.refused(Edge.BEYOND, "mark", w[0], w[1], w[2]);
        }
    }

    // ---- promise 3

    @Says(promise = 3, text = "LAW becomes v: what it was.")
    static void p03LawsFrom0To2(Edge e) {
        e.due(0, "let", 2);
        e.due(2, "let", 2);
        e.due(2, "let", 1);
        e.due(1, "let", 0);
        e.due(0, "now", 1);
    }

    @Says(promise = 3, text = "BEYOND.")
    static void p03Beyond(Edge e) {
        for (int v : new int[] {-1, 3, Edge.MIN, Edge.MAX}) {
            e.refused(Edge.BEYOND, "let", v);
        }
    }

    // ---- promise 4

    @Says(promise = 4, text = "A new one, LIVING: its number.")
    static void p04AgesFrom0To120OfEachKind(Edge e) {
        for (int kind = 0; kind < 6; kind++) {
            e.due(2 * kind, "person", kind, 0);
            e.due(2 * kind + 1, "person", kind, 120);
            e.dueOf(2 * kind, kind, 0, 10, 70, -1, 1);
            e.dueOf(2 * kind + 1, kind, 120, 10, 70, -1, 1);
        }
    }

    @Says(promise = 4, text = "BEYOND: kind, age.")
    static void p04Beyond(Edge e) {
        int[][] wrong = {{-1, 30}, {6, 30}, {Edge.MIN, 30}, {Edge.MAX, 30}, {0, -1}, {5, 121}, {0, Edge.MIN},
            {5, Edge.MAX}, {-1, -1}, {6, 121}};
        for (int[] w : wrong) {
            e.refused(Edge.BEYOND, "person", w[0], w[1]);
        }
    }

    @Says(promise = 4, text = "FULL.")
    static void p04NoThirteenth(Edge e) {
        for (int one = 0; one < 12; one++) {
            e.due(one, "person", 5, 120);
        }
        e.due(Edge.FULL, "person", 0, 0);
        e.due(Edge.FULL, "person", 5, 120);
        e.due(12, "count", 0);
        e.refusedAfter(x -> x.twelve(1, 30), Edge.FULL, "person", 0, 0);
    }

    @Says(promise = 4, text = {"BEYOND: kind, age.", "FULL."})
    static void p04BeyondIsAskedAheadOfFull(Edge e) {
        e.twelve(0, 1);
        e.due(Edge.BEYOND, "person", 6, 1);
        e.due(Edge.BEYOND, "person", -1, 1);
        e.due(Edge.BEYOND, "person", 0, 121);
        e.due(Edge.BEYOND, "person", 0, -1);
        e.due(0, "status", 1);
    }

    @Says(promise = 4, text = "FULL.")
    static void p04DeadOnesTakeRoomToo(Edge e) {
        e.twelve(0, 69);
        e.due(12, "years", 1);
        e.due(Edge.FULL, "person", 0, 1);
    }

    @Says(promise = 4, text = "FULL.")
    static void p04WithUndoThereIsRoomAgain(Edge e) {
        for (int i = 0; i < 11; i++) {
            e.people(0);
        }
        e.call("image");
        e.due(11, "person", 0, 1);
        e.due(Edge.FULL, "person", 0, 1);
        e.due(11, "undo");
        e.due(11, "person", 0, 1);
        e.due(Edge.FULL, "person", 0, 1);
    }

    // ---- promise 5

    @Says(promise = 5, text = "Of one: what 0 KIND, 1 AGE, 2 GOODS, 3 TERM, 4 CHILD (-1), 5 1 if LIVING, else 0")
    static void p05TheLeastAndTheGreatestOfEach(Edge e) {
        e.twelve(0, 0);
        e.call("set", 0, 2, 0);
        e.call("set", 0, 3, 1);
        e.call("set", 0, 5, 0);
        e.dueOf(0, 0, 0, 0, 1, -1, 0);
        e.call("turn", 10, 5);
        e.call("set", 10, 1, 120);
        e.call("set", 10, 2, 999999);
        e.call("set", 10, 3, 120);
        e.call("set", 10, 4, 11);
        e.dueOf(10, 5, 120, 999999, 120, 11, 1);
        e.call("set", 11, 4, 0);
        e.due(0, "of", 11, 4);
    }

    @Says(promise = 5, text = "6 at whom it AIMS (-1; of a DEAD one, too)")
    static void p05NobodyToAimAt(Edge e) {
        for (int kind = 0; kind < 6; kind++) {
            e.anew();
            e.people(kind);
            e.due(-1, "of", 0, 6);
            e.call("set", 0, 5, 0);
            e.due(-1, "of", 0, 6);
        }
    }

    @Says(promise = 5, text = "6 at whom it AIMS (-1; of a DEAD one, too)")
    static void p05ADeadOneAimsAsIfItLived(Edge e) {
        int[] aims = {-1, 1, -1, 2, 1, 2};
        for (int kind = 0; kind < 6; kind++) {
            e.anew();
            e.people(kind, 0, 0);
            e.call("set", 0, 4, 2);
            e.due(aims[kind], "of", 0, 6);
            e.call("set", 0, 5, 0);
            e.due(aims[kind], "of", 0, 6);
        }
    }

    @Says(promise = 5, text = "BEYOND.")
    static void p05Beyond(Edge e) {
        e.due(Edge.BEYOND, "of", 0, 0);
        int[][] wrong = {{-1, 0}, {4, 0}, {Edge.MIN, 0}, {Edge.MAX, 0}, {0, -1}, {0, 7}, {0, Edge.MIN}, {0, Edge.MAX}};
        for (int[] w : wrong) {
            e.refused(Edge.BEYOND, "of", w[0], w[1]);
        }
    }

    // ---- promise 6

    @Says(promise = 6, text = "AGE (what 1), GOODS (2), TERM (3), CHILD (4; another one, or -1), LIVING (5; 0, 1) of one "
        + "becomes v: what it was.")
    static void p06TheLeastAndTheGreatestOfEach(Edge e) {
        e.twelve(0, 30);
        int[][] due = {{1, 0, 30}, {1, 120, 0}, {2, 0, 10}, {2, 999999, 0}, {3, 1, 70}, {3, 120, 1}, {4, 11, -1},
            {4, 1, 11}, {4, -1, 1}, {5, 0, 1}, {5, 0, 0}, {5, 1, 0}, {5, 1, 1}};
        for (int[] d : due) {
            e.due(d[2], "set", 0, d[0], d[1]);
            e.due(d[1], "of", 0, d[0]);
        }
        e.due(-1, "set", 11, 4, 10);
        e.due(10, "set", 11, 4, 0);
    }

    @Says(promise = 6, text = "BEYOND.")
    static void p06BeyondByV(Edge e) {
        int[][] wrong = {{1, -1}, {1, 121}, {2, -1}, {2, 1000000}, {3, 0}, {3, -1}, {3, 121}, {4, -2}, {4, 4}, {5, -1},
            {5, 2}};
        for (int[] w : wrong) {
            e.refused(Edge.BEYOND, "set", 0, w[0], w[1]);
        }
        for (int what = 1; what < 6; what++) {
            e.refused(Edge.BEYOND, "set", 1, what, Edge.MIN);
            e.refused(Edge.BEYOND, "set", 1, what, Edge.MAX);
        }
    }

    @Says(promise = 6, text = "CHILD (4; another one, or -1)")
    static void p06OneIsNotItsOwnChild(Edge e) {
        for (int one = 0; one < 4; one++) {
            e.refused(Edge.BEYOND, "set", one, 4, one);
        }
    }

    @Says(promise = 6, text = "BEYOND.")
    static void p06BeyondByOneAndWhat(Edge e) {
        e.due(Edge.BEYOND, "set", 0, 1, 1);
        for (int one : new int[] {-1, 4, Edge.MIN, Edge.MAX}) {
            e.refused(Edge.BEYOND, "set", one, 1, 1);
            e.refused(Edge.BEYOND, "set", one, 4, -1);
        }
        for (int what : new int[] {0, 6, -1, Edge.MIN, Edge.MAX}) {
            e.refused(Edge.BEYOND, "set", 0, what, 1);
        }
    }

    @Says(promise = 6, text = "LIVING (5; 0, 1) of one becomes v")
    static void p06WhoIsSetDeadLeavesNothingAndWhoIsSetLivingLives(Edge e) {
        e.people(0, 0);
        e.due(1, "set", 0, 5, 0);
        e.due(10, "of", 0, 2);
        e.due(10, "of", 1, 2);
        e.due(1, "now", 2);
        e.due(0, "set", 0, 5, 1);
        e.dueOf(0, 0, 30, 10, 70, -1, 1);
        e.due(2, "now", 2);
    }

    @Says(promise = 6, text = "AGE (what 1), GOODS (2), TERM (3)")
    static void p06WhoIsSetToItsTermLivesYet(Edge e) {
        e.people(0, 0);
        e.call("set", 0, 1, 70);
        e.due(1, "of", 0, 5);
        e.call("set", 1, 3, 1);
        e.due(1, "of", 1, 5);
        e.due(2, "years", 1);
    }

    // ---- promises 7 to 10

    @Says(promise = 7, text = "WAY of a MARK of one.")
    static void p07TheFirstAndTheLast(Edge e) {
        e.twelve(0, 1);
        int[][] corners = {{0, 0, 3}, {0, 8, 2}, {11, 0, 1}, {11, 8, 3}};
        for (int[] c : corners) {
            e.due(0, "way", c[0], c[1]);
            e.call("be", c[0], c[1], c[2]);
        }
        for (int[] c : corners) {
            e.due(c[2], "way", c[0], c[1]);
        }
    }

    @Says(promise = 7, text = "BEYOND.")
    static void p07Beyond(Edge e) {
        e.due(Edge.BEYOND, "way", 0, 0);
        int[][] wrong = {{-1, 0}, {4, 0}, {Edge.MIN, 0}, {Edge.MAX, 0}, {0, -1}, {0, 9}, {0, Edge.MIN}, {0, Edge.MAX}};
        for (int[] w : wrong) {
            e.refused(Edge.BEYOND, "way", w[0], w[1]);
        }
    }

    @Says(promise = 8, text = "It becomes v (nothing is paid): what it was.")
    static void p08NothingIsPaidEvenWithNothingToPay(Edge e) {
        e.people(0);
        e.call("mark", 8, 1, 99);
        e.call("set", 0, 2, 0);
        e.due(0, "be", 0, 8, 3);
        e.due(3, "be", 0, 8, 0);
        e.due(0, "be", 0, 8, 0);
        e.due(0, "of", 0, 2);
    }

    @Says(promise = 8, text = "BEYOND.")
    static void p08Beyond(Edge e) {
        e.due(Edge.BEYOND, "be", 0, 0, 0);
        int[][] wrong = {{-1, 0, 1}, {4, 0, 1}, {Edge.MIN, 0, 1}, {Edge.MAX, 0, 1}, {0, -1, 1}, {0, 9, 1},
            {0, Edge.MIN, 1}, {0, Edge.MAX, 1}, {0, 0, -1}, {0, 8, 4}, {0, 0, Edge.MIN}, {0, 8, Edge.MAX}};
        for (int[] w : wrong) {
            e.refused(Edge.BEYOND, "be", w[0], w[1], w[2]);
        }
    }

    @Says(promise = 9, text = "One becomes of another KIND: what it was.")
    static void p09FromEachKindToEach(Edge e) {
        e.people(0);
        int was = 0;
        for (int from = 0; from < 6; from++) {
            for (int to = 0; to < 6; to++) {
                e.due(was, "turn", 0, from);
                e.due(from, "turn", 0, to);
                was = to;
            }
        }
        e.dueOf(0, 5, 30, 10, 70, -1, 1);
    }

    @Says(promise = 9, text = "BEYOND.")
    static void p09Beyond(Edge e) {
        e.due(Edge.BEYOND, "turn", 0, 0);
        int[][] wrong = {{-1, 0}, {4, 0}, {Edge.MIN, 0}, {Edge.MAX, 0}, {0, -1}, {0, 6}, {0, Edge.MIN}, {0, Edge.MAX}};
        for (int[] w : wrong) {
            e.refused(Edge.BEYOND, "turn", w[0], w[1]);
        }
    }

    @Says(promise = 10, text = "One as one of a kind: GOODS.")
    static void p10TheLeastAndTheMostGoods(Edge e) {
        e.people(4);
        e.call("set", 0, 2, 0);
        e.due(0, "as", 0, 0);
        e.call("set", 0, 2, 999999);
        e.due(999999, "as", 0, 1);
        e.call("set", 0, 5, 0);
        e.due(999999, "as", 0, 4);
    }

    @Says(promise = 10, text = "BEYOND: no such one, kind.")
    static void p10Beyond(Edge e) {
        e.due(Edge.BEYOND, "as", 0, 0);
        int[][] wrong = {{-1, 0}, {4, 0}, {Edge.MIN, 0}, {Edge.MAX, 0}, {0, -1}, {0, 6}, {0, Edge.MIN}, {0, Edge.MAX}};
        for (int[] w : wrong) {
            e.refused(Edge.BEYOND, "as", w[0], w[1]);
        }
    }

    @Says(promise = 10, text = "KIND: it isn't of that kind, nor of one under it.")
    static void p10KindIsNotGoneDownFromAboveNorAcross(Edge e) {
        int[][] wrong = {{0, 1}, {0, 2}, {0, 4}, {0, 5}, {1, 2}, {1, 3}, {1, 4}, {1, 5}, {2, 1}, {2, 3}, {2, 4}, {2, 5},
            {3, 2}, {3, 3}, {3, 5}};
        for (int[] w : wrong) {
            e.refused(Edge.KIND, "as", w[0], w[1]);
        }
    }

    @Says(promise = 10, text = "KIND: it isn't of that kind, nor of one under it.")
    static void p10KindGoesByWhatOneHasTurnedTo(Edge e) {
        e.people(4);
        e.due(10, "as", 0, 1);
        e.call("turn", 0, 5);
        e.due(Edge.KIND, "as", 0, 1);
        e.due(10, "as", 0, 3);
        e.call("turn", 0, 0);
        e.due(Edge.KIND, "as", 0, 3);
        e.due(10, "as", 0, 0);
    }
}
