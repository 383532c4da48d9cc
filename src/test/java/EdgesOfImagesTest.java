/** The boundaries of promises 42 to 46. */
public final class EdgesOfImagesTest {
    public static void main(String[] args) throws Exception {
        Edge.run(EdgesOfImagesTest.class);
    }

    // ---- promise 42

    @Says(promise = 42, text = "All that section 1 tells (THE TAPE not) is kept: 1.")
    static void p42AllThatSection1TellsIsKept(Edge e) {
        e.call("person", 3, 120);
        e.call("person", 1, 0);
        e.call("set", 0, 2, 999999);
        e.call("set", 0, 3, 1);
        e.call("set", 0, 4, 1);
        e.call("set", 1, 5, 0);
        e.ways(0, 1, 2, 3, 1, 2, 3, 1, 2, 3);
        e.call("mark", 0, 0, 9);
        e.call("mark", 8, 1, 99);
        e.call("let", 2);
        e.call("image");
        e.people(0);
        e.call("turn", 0, 0);
        e.call("set", 0, 1, 0);
        e.call("set", 0, 2, 0);
        e.call("set", 0, 3, 120);
        e.call("set", 0, 4, -1);
        e.call("set", 0, 5, 0);
        e.call("set", 1, 5, 1);
        e.ways(0, 0, 0, 0, 0, 0, 0, 0, 0, 0);
        e.call("mark", 0, 0, 0);
        e.call("mark", 8, 1, 0);
        e.call("let", 0);
        e.call("years", 100);
        e.due(2, "undo");
        e.due(2, "count", 0);
        e.due(0, "now", 0);
        e.due(2, "now", 1);
        e.dueOf(0, 3, 120, 999999, 1, 1, 1);
        e.dueOf(1, 1, 0, 10, 70, -1, 0);
        e.dueWays(0, 1, 2, 3, 1, 2, 3, 1, 2, 3);
        e.due(17, "count", 2);
        e.due(9, "mark", 0, 0, 1);
        e.due(99, "mark", 8, 1, 1);
    }

    @Says(promise = 42, text = "(THE TAPE not)")
    static void p42NeitherTheTapeNorSheetsAreKept(Edge e) {
        e.feed("law 2");
        e.numbers(0, 8, 5);
        e.due(1, "image");
        e.due(5, "wipe");
        e.call("sheet", 0, 0, 0);
        e.numbers(1, 16, 300);
        e.due(0, "undo");
        e.due(0, "count", 1);
        e.due(Edge.MISSING, "write", 0, 0, 1);
        e.dueNumbers(1, 300);
    }

    @Says(promise = 42, text = "(THE TAPE not)")
    static void p42WhatIsFedBehindAnImageStaysOnTheTape(Edge e) {
        e.feed("law");
        e.call("image");
        e.feed(" 2");
        e.due(0, "undo");
        e.due(5, "count", 1);
        e.due(1, "valley");
        e.due(2, "now", 1);
        e.due(0, "undo");
        e.due(0, "count", 1);
    }

    @Says(promise = 42, text = "is kept: 1.")
    static void p42OfAnEmptyValleyAndOfTwelve(Edge e) {
        e.due(1, "image");
        e.twelve(0, 1);
        e.due(0, "undo");
        e.due(0, "count", 0);
        e.twelve(5, 120);
        e.due(1, "image");
        e.due(1, "image");
        e.call("years", 1);
        e.due(12, "undo");
        e.due(12, "now", 2);
        e.due(1440, "count", 3);
    }

    @Says(promise = 42, text = "All that section 1 tells (THE TAPE not) is kept")
    static void p42WhatIsKeptDoesntChangeWithWhatThereIs(Edge e) {
        e.people(0, 0);
        e.call("image");
        e.call("dies", 0);
        e.call("be", 1, 8, 3);
        e.due(2, "undo");
        e.call("dies", 1);
        e.call("be", 0, 8, 3);
        e.due(2, "undo");
        e.dueOf(0, 0, 30, 10, 70, -1, 1);
        e.dueOf(1, 0, 30, 10, 70, -1, 1);
        e.due(9, "like", 0, 1);
    }

    // ---- promise 43

    @Says(promise = 43, text = "It becomes what was kept latest (which stays): how many PEOPLE.")
    static void p43WhatWasKeptLatestStays(Edge e) {
        e.people(0);
        e.call("image");
        e.people(0);
        e.call("image");
        e.people(0);
        for (int i = 0; i < 3; i++) {
            e.due(2, "undo");
            e.people(0, 0);
        }
        e.due(4, "count", 0);
        e.due(2, "undo");
    }

    @Says(promise = 43, text = "how many PEOPLE")
    static void p43DeadOnesArePeopleToo(Edge e) {
        e.people(0, 0, 0);
        e.call("dies", 1);
        e.call("image");
        e.due(3, "undo");
        e.due(2, "now", 2);
    }

    @Says(promise = 43, text = "NONE: nothing is kept.")
    static void p43NothingIsKept(Edge e) {
        e.people(0);
        e.due(Edge.NONE, "undo");
        e.due(1, "count", 0);
        e.call("image");
        e.call("tear");
        e.people(0);
        e.due(Edge.NONE, "undo");
        e.due(2, "count", 0);
        e.refusedAfter(x -> {
            x.liveIn();
            x.call("tear");
        }, Edge.NONE, "undo");
    }

    // ---- promise 44

    @Says(promise = 44, text = "Nothing is kept: 1 if something was, else 0.")
    static void p44OnceOrTwiceKeptOnceTorn(Edge e) {
        e.due(0, "tear");
        e.due(0, "tear");
        e.call("image");
        e.call("image");
        e.due(1, "tear");
        e.due(0, "tear");
        e.due(Edge.NONE, "undo");
        e.call("image");
        e.due(0, "undo");
        e.due(1, "tear");
    }

    @Says(promise = 44, text = "Nothing is kept")
    static void p44WhatThereIsStays(Edge e) {
        e.liveIn();
        e.due(1, "tear");
        e.due(4, "count", 0);
        e.due(2, "now", 0);
        e.due(15, "count", 1);
        e.dueNumbers(0, 1, -3, 2);
    }

    // ---- promise 45

    @Says(promise = 45, text = "0 PEOPLE, 1 bytes of THE TAPE, 2 what all MARKS WEIGH together, 3 AGES of all LIVING together.")
    static void p45TheLeastAndTheGreatestOfEach(Edge e) {
        for (int m = 0; m < 9; m++) {
            e.call("mark", m, 0, 0);
        }
        for (int what = 0; what < 4; what++) {
            e.due(0, "count", what);
        }
        e.twelve(0, 120);
        for (int m = 0; m < 9; m++) {
            e.call("mark", m, 0, 9);
        }
        e.feed(" ".repeat(120));
        int[] most = {12, 120, 81, 1440};
        for (int what = 0; what < 4; what++) {
            e.due(most[what], "count", what);
        }
    }

    @Says(promise = 45, text = {"0 PEOPLE", "3 AGES of all LIVING together"})
    static void p45DeadOnesArePeopleButTheirAgesDontCount(Edge e) {
        e.call("person", 0, 50);
        e.call("person", 0, 7);
        e.call("dies", 0);
        e.due(2, "count", 0);
        e.due(7, "count", 3);
    }

    @Says(promise = 45, text = "BEYOND: another what.")
    static void p45Beyond(Edge e) {
        for (int what : new int[] {-1, 4, Edge.MIN, Edge.MAX}) {
            e.refused(Edge.BEYOND, "count", what);
        }
    }

    // ---- promise 46

    @Says(promise = 46, text = "which -1: all, 0 to 6: BEYOND to SIZE.")
    static void p46EachFindingIsCountedForItself(Edge e) {
        for (int which = -1; which < 7; which++) {
            e.due(0, "status", which);
        }
        Object[][] calls = {{"let", 3}, {"person", 0, 0}, {"as", 0, 1}, {"undo"}, {"best", 1}, {"read", 0},
            {"sheet", 0, 8, -1}};
        e.twelve(0, 30);
        e.call("dies", 1);
        for (int which = 0; which < 7; which++) {
            Object[] args = java.util.Arrays.copyOfRange(calls[which], 1, calls[which].length);
            for (int i = 0; i <= which; i++) {
                e.due(Edge.BEYOND - which, (String) calls[which][0], args);
            }
        }
        for (int which = 0; which < 7; which++) {
            e.due(which + 1, "status", which);
        }
        e.due(28, "status", -1);
    }

    @Says(promise = 46, text = "How many acts answered a finding ever (undo() takes none back)")
    static void p46NeitherUndoNorTearNorAFaultTakesAnyBack(Edge e) {
        e.call("image");
        e.call("let", 3);
        e.call("read", 0);
        e.due(0, "undo");
        e.due(1, "tear");
        e.due(Edge.NONE, "undo");
        e.due(-1, "valley");
        e.due(0, "wipe");
        e.due(1, "status", 0);
        e.due(1, "status", 3);
        e.due(1, "status", 5);
        e.due(3, "status", -1);
    }

    @Says(promise = 46, text = "How many acts answered a finding ever")
    static void p46AskingIsNotCounted(Edge e) {
        for (int which = -1; which < 7; which++) {
            e.due(0, "status", which);
            e.due(0, "status", -1);
        }
    }

    @Says(promise = 46, text = "BEYOND (counted from then on): another one.")
    static void p46BeyondIsCountedFromThenOn(Edge e) {
        int counted = 0;
        for (int which : new int[] {-2, 7, Edge.MIN, Edge.MAX, Edge.BEYOND}) {
            e.due(Edge.BEYOND, "status", which);
            counted++;
            e.due(counted, "status", 0);
            e.due(counted, "status", -1);
        }
        e.refused(Edge.BEYOND, "status", 7);
        e.refused(Edge.BEYOND, "status", -2);
    }
}
