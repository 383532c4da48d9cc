/** The boundaries that "What it is" and the head of "Terms" name, and sections 2 and 3. */
public final class EdgesOfTermsTest {
    public static void main(String[] args) throws Exception {
        Edge.run(EdgesOfTermsTest.class);
    }

    @Says(promise = 0, text = "An object is used for at most 512 calls after it has been made")
    static void tThe512thCallIsAnsweredYet(Edge e) {
        for (int i = 0; i < 511; i++) {
            e.call("let", 3);
        }
        e.due(511, "status", -1);
    }

    @Says(promise = 0, text = "An object is used for at most 512 calls after it has been made")
    static void tTheDearestCallsAreAnswered512Times(Edge e) {
        e.twelve(5, 20);
        for (int i = 0; i < 250; i++) {
            e.due(0, "kind", 0, 100);
            e.due(4096, "ways", 1, 0);
        }
    }

    @Says(promise = 0, text = {"FINDINGS are answers below -1000000000", "-1000000001 BEYOND, -1000000002 FULL, "
        + "-1000000003 KIND, -1000000004 NONE, -1000000005 STATE, -1000000006 MISSING, -1000000007 SIZE"})
    static void tFindingsHaveTheirNumbers(Edge e) {
        e.twelve(0, 30);
        e.due(-1000000001, "let", 3);
        e.due(-1000000002, "person", 0, 0);
        e.due(-1000000003, "as", 0, 1);
        e.due(-1000000004, "undo");
        e.call("dies", 0);
        e.due(-1000000005, "dies", 0);
        e.due(-1000000006, "read", 0);
        e.due(-1000000007, "sheet", 0, 8, -1);
    }

    @Says(promise = 0, text = "(in longs, too)")
    static void tFindingsInLongsHaveTheSameNumbers(Edge e) {
        e.due(-1000000001L, "write", 4, 0, 1L);
        e.due(-1000000006L, "write", 0, 0, 1L);
        e.call("sheet", 0, 64, 1);
        e.due(-1000000001L, "write", 0, 1, 1L);
    }

    @Says(promise = 0, text = "FINDINGS are answers below -1000000000")
    static void tAnswersThatAreNoFindingsAreNotCounted(Edge e) {
        e.numbers(0, 64, -1000000001L, -1000000007L);
        e.due(-1000000001L, "write", 0, 0, 0);
        e.due(-1000000007L, "write", 0, 1, 0);
        e.people(0);
        e.due(-1, "of", 0, 4);
        e.due(-1, "valley");
        e.due(-1, "dies", 0);
        e.due(0, "status", -1);
    }

    @Says(promise = 0, text = "one that answers a finding changes nothing but status()")
    static void tOneOfEachFindingChangesNothing(Edge e) {
        e.refused(Edge.BEYOND, "let", 3);
        e.refusedAfter(x -> {
            x.liveIn();
            for (int i = 0; i < 8; i++) {
                x.call("person", 1, 30);
            }
        }, Edge.FULL, "person", 0, 0);
        e.refused(Edge.KIND, "as", 0, 1);
        e.refused(Edge.NONE, "changes", 2);
        e.refused(Edge.STATE, "dies", 2);
        e.refused(Edge.MISSING, "read", 3);
        e.refused(Edge.SIZE, "sheet", 0, 8, -1);
    }

    @Says(promise = 0, text = "Each act tells its findings in the order in which they are asked")
    static void tTheFirstFindingAloneIsToldAndCounted(Edge e) {
        e.twelve(0, 30);
        e.due(Edge.BEYOND, "person", 6, 0);
        e.due(Edge.BEYOND, "copy", 0, 0, 4, 0, -1);
        e.due(Edge.MISSING, "copy", 0, 0, 1, 0, -1);
        e.due(Edge.BEYOND, "sheet", 0, 7, -1);
        e.due(3, "status", 0);
        e.due(1, "status", 5);
        e.due(4, "status", -1);
    }

    @Says(promise = 0, text = "Quotients are cut.")
    static void tHalvesOfOddGoods(Edge e) {
        int[][] cases = {{0, 0, 0}, {1, 1, 0}, {2, 1, 1}, {3, 2, 1}, {999998, 499999, 499999}, {999999, 500000, 499999}};
        for (int[] c : cases) {
            e.anew();
            e.people(0, 0, 0);
            e.call("let", 2);
            e.call("set", 0, 2, c[0]);
            e.call("set", 1, 2, 0);
            e.call("set", 2, 2, 0);
            e.due(1, "dies", 0);
            e.due(c[1], "of", 1, 2);
            e.due(c[2], "of", 2, 2);
        }
    }

    @Says(promise = 0, text = "Sets are told by bits.")
    static void tSetsReachFromBit0ToBit11(Edge e) {
        e.due(0, "living", 0);
        e.people(0);
        e.due(1, "living", 0);
        e.people(0, 0, 0, 0, 0, 0, 0, 0, 0, 0, 1);
        e.due(4095, "living", 0);
        e.due(4094, "heirOf", 0);
        e.due(1, "heirOf", 1);
        e.due(2048, "watched", 0);
    }

    @Says(promise = 0, text = "ON: n YEARS go on with all as it is; nothing changes.")
    static void s2OnChangesNothingAtAll(Edge e) {
        String[] asked = {"living", "rich", "fair"};
        e.liveIn();
        for (String name : asked) {
            e.call(name, 100);
        }
        e.call("on", 0, 100);
        e.call("when", 0);
        e.call("gets", 0);
        e.call("kind", 1, 100);
        e.call("sheet", 3, 8, 4);
        e.call("book", 3, 100);
        e.due(2, "now", 0);
        e.due(2, "now", 1);
        e.due(3, "now", 2);
        e.due(4, "count", 0);
        e.due(42 + 68 + 32, "count", 3);
        e.dueOf(2, 2, 32, 5, 70, -1, 0);
        e.due(3, "of", 0, 0);
        e.due(1, "of", 1, 0);
        e.due(2, "undo");
        e.due(0, "now", 0);
    }

    @Says(promise = 0, text = "ON: n YEARS go on with all as it is; nothing changes.")
    static void s2OnIsWhatYearsDo(Edge e) {
        e.liveIn();
        e.call("image");
        long[] goods = new long[4];
        for (int one = 0; one < 4; one++) {
            goods[one] = e.call("on", one, 100);
        }
        long living = e.call("living", 30);
        e.call("years", 30);
        e.due(living, "living", 0);
        e.call("undo");
        e.call("years", 100);
        for (int one = 0; one < 4; one++) {
            e.due(goods[one], "of", one, 2);
        }
    }

    @Says(promise = 0, text = "SHEETS 0 to 3 are rows of at most 40 numbers of 8, 16 or 64 bits, or MISSING (at first).")
    static void s3FourSheetsOfAtMost40NumbersMissingAtFirst(Edge e) {
        for (int s = 0; s < 4; s++) {
            e.due(Edge.MISSING, "write", s, 0, 1);
        }
        int[] bits = {8, 16, 64, 64};
        for (int s = 0; s < 4; s++) {
            e.due(40, "sheet", s, bits[s], 40);
            e.due(0, "write", s, 39, s + 1);
            e.due(Edge.BEYOND, "write", s, 40, 1);
        }
        for (int s = 0; s < 4; s++) {
            e.due(s + 1, "write", s, 39, 0);
        }
        e.due(Edge.BEYOND, "write", -1, 0, 1);
        e.due(Edge.BEYOND, "write", 4, 0, 1);
    }

    @Says(promise = 0, text = "SHEETS 0 to 3 are rows of at most 40 numbers")
    static void s3SheetsDontShareNumbers(Edge e) {
        for (int s = 0; s < 4; s++) {
            e.numbers(s, 16, 10 * s, 10 * s + 1);
        }
        for (int s = 0; s < 4; s++) {
            e.dueNumbers(s, 10 * s, 10 * s + 1);
        }
    }
}
