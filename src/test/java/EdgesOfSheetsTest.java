/** The boundaries of promises 36 to 41. */
public final class EdgesOfSheetsTest {
    private static final int[] NO_SHEET = {-1, 4, Edge.MIN, Edge.MAX};
    private static final int[] BITS = {8, 16, 64};

    public static void main(String[] args) throws Exception {
        Edge.run(EdgesOfSheetsTest.class);
    }

    // ---- promise 36

    @Says(promise = 36, text = "A sheet has n numbers, all 0, of 8, 16 or 64 bits; bits 0: it is MISSING: n (0 if it is "
        + "MISSING).")
    static void p36From0To40Numbers(Edge e) {
        for (int s = 0; s < 4; s++) {
            for (int bits : BITS) {
                e.due(0, "sheet", s, bits, 0);
                e.due(Edge.BEYOND, "write", s, 0, 1);
                e.due(1, "sheet", s, bits, 1);
                e.due(0, "write", s, 0, 1);
                e.due(Edge.BEYOND, "write", s, 1, 1);
                e.due(40, "sheet", s, bits, 40);
                e.due(0, "write", s, 39, 1);
                e.due(Edge.BEYOND, "write", s, 40, 1);
            }
        }
    }

    @Says(promise = 36, text = "all 0")
    static void p36AllAre0Again(Edge e) {
        for (int bits : BITS) {
            e.anew();
            e.call("sheet", 2, bits, 40);
            for (int i = 0; i < 40; i++) {
                e.call("write", 2, i, i + 1);
            }
            e.due(40, "sheet", 2, bits, 40);
            for (int i = 0; i < 40; i++) {
                e.due(0, "write", 2, i, i + 1);
            }
            e.due(0, "sheet", 2, 0, 40);
            e.due(40, "sheet", 2, bits, 40);
            for (int i = 0; i < 40; i++) {
                e.due(0, "write", 2, i, 1);
            }
        }
    }

    @Says(promise = 36, text = "all 0")
    static void p36AShorterSheetThatGrowsAgainHasNothingOfTheOld(Edge e) {
        e.numbers(0, 64, 5, 6, 7);
        e.due(1, "sheet", 0, 64, 1);
        e.dueNumbers(0, 0);
        e.due(3, "sheet", 0, 8, 3);
        e.dueNumbers(0, 0, 0, 0);
    }

    @Says(promise = 36, text = "bits 0: it is MISSING: n (0 if it is MISSING)")
    static void p36MissingWhateverN(Edge e) {
        for (int n : new int[] {0, 1, 40}) {
            e.call("sheet", 1, 8, 2);
            e.due(0, "sheet", 1, 0, n);
            e.due(Edge.MISSING, "write", 1, 0, 1);
            e.due(0, "sheet", 1, 0, n);
        }
    }

    @Says(promise = 36, text = "BEYOND: no such sheet, other bits.")
    static void p36BeyondBySheetAndBits(Edge e) {
        for (int s : NO_SHEET) {
            e.refused(Edge.BEYOND, "sheet", s, 8, 3);
        }
        for (int bits : new int[] {-1, 1, 7, 9, 15, 17, 32, 63, 65, -8, -64, 128, Edge.MIN, Edge.MAX}) {
            e.refused(Edge.BEYOND, "sheet", 0, bits, 3);
        }
    }

    @Says(promise = 36, text = "SIZE: n is below 0 (also with bits 0).")
    static void p36Size(Edge e) {
        for (int bits : new int[] {0, 8, 16, 64}) {
            e.refused(Edge.SIZE, "sheet", 0, bits, -1);
            e.refused(Edge.SIZE, "sheet", 3, bits, Edge.MIN);
        }
    }

    @Says(promise = 36, text = "BEYOND: n is above 40 (also with bits 0).")
    static void p36BeyondByN(Edge e) {
        for (int bits : new int[] {0, 8, 16, 64}) {
            e.refused(Edge.BEYOND, "sheet", 0, bits, 41);
            e.refused(Edge.BEYOND, "sheet", 3, bits, Edge.MAX);
        }
    }

    @Says(promise = 36, text = {"BEYOND: no such sheet, other bits.", "SIZE: n is below 0"})
    static void p36SheetAndBitsAreAskedAheadOfSize(Edge e) {
        e.due(Edge.BEYOND, "sheet", 4, 8, -1);
        e.due(Edge.BEYOND, "sheet", -1, 0, -1);
        e.due(Edge.BEYOND, "sheet", 0, 32, -1);
        e.due(Edge.SIZE, "sheet", 0, 8, -1);
        e.due(3, "status", 0);
        e.due(1, "status", 6);
    }

    // ---- promise 37

    @Says(promise = 37, text = "Number i of a sheet becomes v (its lowest bits): what it was.")
    static void p37NumbersOf8BitsComeRound(Edge e) {
        e.call("sheet", 0, 8, 2);
        long[][] due = {{127, 127}, {128, -128}, {255, -1}, {256, 0}, {-128, -128}, {-129, 127}, {-256, 0}, {257, 1},
            {Long.MAX_VALUE, -1}, {Long.MIN_VALUE, 0}};
        comesRound(e, 0, due);
    }

    @Says(promise = 37, text = "Number i of a sheet becomes v (its lowest bits): what it was.")
    static void p37NumbersOf16BitsComeRound(Edge e) {
        e.call("sheet", 1, 16, 2);
        long[][] due = {{255, 255}, {256, 256}, {32767, 32767}, {32768, -32768}, {65535, -1}, {65536, 0}, {-32768, -32768},
            {-32769, 32767}, {65537, 1}, {Long.MAX_VALUE, -1}, {Long.MIN_VALUE, 0}};
        comesRound(e, 1, due);
    }

    @Says(promise = 37, text = "Number i of a sheet becomes v (its lowest bits): what it was.")
    static void p37NumbersOf64BitsAreWhole(Edge e) {
        e.call("sheet", 2, 64, 2);
        long[][] due = {{65536, 65536}, {1L << 32, 1L << 32}, {-1, -1}, {Long.MAX_VALUE, Long.MAX_VALUE},
            {Long.MIN_VALUE, Long.MIN_VALUE}, {Edge.BEYOND, Edge.BEYOND}};
        comesRound(e, 2, due);
    }

    private static void comesRound(Edge e, int s, long[][] due) {
        long was = 0;
        for (long[] d : due) {
            e.due(was, "write", s, 1, d[0]);
            was = d[1];
        }
        e.due(was, "write", s, 1, 0);
        e.due(0, "write", s, 0, 0);
        e.due(0, "status", -1);
    }

    @Says(promise = 37, text = "BEYOND: no such sheet.")
    static void p37NoSuchSheet(Edge e) {
        for (int s : NO_SHEET) {
            e.refused(Edge.BEYOND, "write", s, 0, 1L);
        }
    }

    @Says(promise = 37, text = "MISSING.")
    static void p37Missing(Edge e) {
        e.refused(Edge.MISSING, "write", 3, 0, 1L);
        e.refused(Edge.MISSING, "write", 3, -1, 1L);
        e.refused(Edge.MISSING, "write", 3, 40, 1L);
    }

    @Says(promise = 37, text = "BEYOND: no such number.")
    static void p37NoSuchNumber(Edge e) {
        for (int i : new int[] {-1, 3, 39, 40, Edge.MIN, Edge.MAX}) {
            e.refused(Edge.BEYOND, "write", 0, i, 1L);
        }
        e.call("sheet", 0, 64, 0);
        e.due(Edge.BEYOND, "write", 0, 0, 1);
    }

    // ---- promise 38

    @Says(promise = 38, text = "n numbers of a sheet from one on come to another one from one on (as they all were): n.")
    static void p38NoneOneAndAll(Edge e) {
        e.numbers(0, 64, 1, 2, 3);
        e.call("sheet", 3, 64, 3);
        e.due(0, "copy", 0, 0, 3, 0, 0);
        e.due(0, "copy", 0, 3, 3, 3, 0);
        e.dueNumbers(3, 0, 0, 0);
        e.due(1, "copy", 0, 2, 3, 0, 1);
        e.dueNumbers(3, 3, 0, 0);
        e.due(3, "copy", 0, 0, 3, 0, 3);
        e.dueNumbers(3, 1, 2, 3);
        e.dueNumbers(0, 1, 2, 3);
    }

    @Says(promise = 38, text = "n numbers of a sheet from one on come to another one from one on")
    static void p38AFullSheetOf40(Edge e) {
        e.call("sheet", 0, 8, 40);
        e.call("sheet", 1, 8, 40);
        for (int i = 0; i < 40; i++) {
            e.call("write", 0, i, i + 1);
        }
        e.due(40, "copy", 0, 0, 1, 0, 40);
        e.due(Edge.BEYOND, "copy", 0, 0, 1, 0, 41);
        e.due(Edge.BEYOND, "copy", 0, 1, 1, 0, 40);
        e.due(Edge.BEYOND, "copy", 0, 0, 1, 1, 40);
        for (int i = 0; i < 40; i++) {
            e.due(i + 1, "write", 1, i, 0);
        }
    }

    @Says(promise = 38, text = "(as they all were)")
    static void p38OverItself(Edge e) {
        e.numbers(0, 16, 1, 2, 3, 4, 5);
        e.due(4, "copy", 0, 0, 0, 1, 4);
        e.dueNumbers(0, 1, 1, 2, 3, 4);
        e.due(4, "copy", 0, 1, 0, 0, 4);
        e.dueNumbers(0, 1, 2, 3, 4, 4);
        e.due(5, "copy", 0, 0, 0, 0, 5);
        e.dueNumbers(0, 1, 2, 3, 4, 4);
    }

    @Says(promise = 38, text = "BEYOND: no such sheet (either).")
    static void p38NoSuchSheet(Edge e) {
        for (int s : NO_SHEET) {
            e.refused(Edge.BEYOND, "copy", s, 0, 0, 0, 1);
            e.refused(Edge.BEYOND, "copy", 0, 0, s, 0, 1);
            e.refused(Edge.BEYOND, "copy", 3, 0, s, 0, -1);
            e.refused(Edge.BEYOND, "copy", s, 0, 3, 0, -1);
        }
    }

    @Says(promise = 38, text = "MISSING: one is.")
    static void p38Missing(Edge e) {
        e.refused(Edge.MISSING, "copy", 3, 0, 0, 0, 1);
        e.refused(Edge.MISSING, "copy", 0, 0, 3, 0, 1);
        e.refused(Edge.MISSING, "copy", 3, 0, 3, 0, 0);
        e.refused(Edge.MISSING, "copy", 0, -1, 3, 0, 1);
    }

    @Says(promise = 38, text = "KIND: they are not of as many bits.")
    static void p38Kind(Edge e) {
        for (int s = 0; s < 3; s++) {
            for (int t = 0; t < 3; t++) {
                if (s != t) {
                    e.refused(Edge.KIND, "copy", s, 0, t, 0, 0);
                    e.refused(Edge.KIND, "copy", s, -1, t, -1, -1);
                    e.refused(Edge.KIND, "copy", s, 0, t, 0, 41);
                }
            }
        }
    }

    @Says(promise = 38, text = "BEYOND: one has not so many, or from, to or n is below 0.")
    static void p38BeyondByNumbers(Edge e) {
        int[][] wrong = {{-1, 0, 1}, {0, -1, 1}, {0, 0, -1}, {-1, 0, 0}, {0, -1, 0}, {3, 0, 0}, {0, 4, 0}, {1, 0, 2},
            {0, 2, 2}, {0, 0, 3}, {2, 0, 1}, {0, 3, 1}, {0, 0, Edge.MAX}, {0, 0, Edge.MIN}, {Edge.MAX, 0, 1},
            {Edge.MIN, 0, 1}, {0, Edge.MAX, 1}, {0, Edge.MIN, 1}, {1, 0, Edge.MAX}, {Edge.MAX, 0, Edge.MAX},
            {0, Edge.MAX, Edge.MAX}, {Edge.MIN, Edge.MIN, Edge.MIN}, {-1, 0, 2}, {0, -1, 2}};
        for (int[] w : wrong) {
            e.refusedAfter(x -> {
                x.numbers(0, 8, 5, 6);
                x.numbers(1, 8, 7, 8, 9);
            }, Edge.BEYOND, "copy", 0, w[0], 1, w[1], w[2]);
        }
        e.numbers(0, 8, 5, 6);
        e.numbers(1, 8, 7, 8, 9);
        e.due(0, "copy", 0, 2, 1, 3, 0);
        e.due(2, "copy", 0, 0, 1, 1, 2);
        e.dueNumbers(1, 7, 5, 6);
        e.due(Edge.BEYOND, "copy", 1, 0, 0, 0, 3);
        e.due(Edge.BEYOND, "copy", 1, 2, 0, 0, 2);
    }

    // ---- promise 39

    @Says(promise = 39, text = "Numbers of a sheet become WAYS of MARKS 0, 1, .. of one (those that aren't 0 to 3, or stand "
        + "for none, are left out): how many came.")
    static void p39From0To9(Edge e) {
        e.people(0, 0);
        e.call("sheet", 0, 8, 0);
        e.due(0, "lays", 0, 0);
        e.numbers(0, 8, 3);
        e.due(1, "lays", 0, 0);
        e.dueWays(0, 3, 0);
        e.numbers(0, 8, 0, 1, 2, 3, 0, 1, 2, 3);
        e.due(8, "lays", 0, 0);
        e.numbers(0, 8, 3, 3, 3, 3, 3, 3, 3, 3, 3);
        e.due(9, "lays", 0, 0);
        e.dueWays(0, 3, 3, 3, 3, 3, 3, 3, 3, 3);
        e.numbers(0, 8, 0, 1, 2, 3, 0, 1, 2, 3, 0, 1);
        e.due(9, "lays", 0, 0);
        e.dueWays(0, 0, 1, 2, 3, 0, 1, 2, 3, 0);
        e.call("sheet", 0, 8, 40);
        e.due(9, "lays", 0, 0);
        e.dueWays(0, 0, 0, 0, 0, 0, 0, 0, 0, 0);
        e.dueWays(1, 0, 0, 0, 0, 0, 0, 0, 0, 0);
    }

    @Says(promise = 39, text = "(those that aren't 0 to 3, or stand for none, are left out)")
    static void p39WhatIsNoWayIsLeftOut(Edge e) {
        e.people(0);
        e.ways(0, 1, 1, 1, 1, 1, 1, 1, 1, 1);
        e.numbers(0, 64, -1, 4, 0, 3, 1L << 32, (1L << 32) + 2, Long.MIN_VALUE, Long.MAX_VALUE, 2);
        e.due(3, "lays", 0, 0);
        e.dueWays(0, 1, 1, 0, 3, 1, 1, 1, 1, 2);
        e.numbers(1, 8, 256 + 2, 255);
        e.due(1, "lays", 1, 0);
        e.dueWays(0, 2, 1, 0);
        e.due(10, "of", 0, 2);
    }

    @Says(promise = 39, text = "BEYOND: no such sheet.")
    static void p39NoSuchSheet(Edge e) {
        for (int s : NO_SHEET) {
            e.refused(Edge.BEYOND, "lays", s, 0);
        }
    }

    @Says(promise = 39, text = "MISSING.")
    static void p39MissingIsAskedAheadOfOne(Edge e) {
        e.refused(Edge.MISSING, "lays", 3, 0);
        e.refused(Edge.MISSING, "lays", 3, 4);
        e.due(Edge.MISSING, "lays", 0, 0);
    }

    @Says(promise = 39, text = "BEYOND: one.")
    static void p39NoSuchOne(Edge e) {
        for (int one : new int[] {-1, 4, 12, Edge.MIN, Edge.MAX}) {
            e.refused(Edge.BEYOND, "lays", 0, one);
        }
        e.call("sheet", 0, 8, 1);
        e.due(Edge.BEYOND, "lays", 0, 0);
    }

    @Says(promise = 39, text = "Numbers of a sheet become WAYS of MARKS 0, 1, .. of one")
    static void p39OfADeadOneToo(Edge e) {
        e.people(0);
        e.call("dies", 0);
        e.numbers(0, 16, 3, 2);
        e.due(2, "lays", 0, 0);
        e.dueWays(0, 3, 2, 0);
    }

    // ---- promise 40

    @Says(promise = 40, text = "A book: HEIRS of 0, 1, .. (-1: nobody) ON n YEARS (0 to 100) come to a sheet, as far as it "
        + "has numbers: how many.")
    static void p40AsFarAsItHasNumbersAndThereArePeople(Edge e) {
        e.call("sheet", 0, 8, 0);
        e.due(0, "book", 0, 0);
        e.call("sheet", 0, 8, 2);
        e.due(0, "book", 0, 0);
        e.twelve(0, 30);
        e.due(2, "book", 0, 0);
        e.dueNumbers(0, 1, 0);
        e.numbers(0, 8, 9, 9, 9, 9, 9, 9, 9, 9, 9, 9, 9, 9, 9);
        e.due(12, "book", 0, 0);
        e.dueNumbers(0, 1, 0, 0, 0, 0, 0, 0, 0, 0, 0, 0, 0, 9);
        e.call("sheet", 0, 16, 40);
        e.due(12, "book", 0, 100);
        e.dueNumbers(0, -1, -1, -1, -1, -1, -1, -1, -1, -1, -1, -1, -1, 0);
        e.call("sheet", 0, 8, 0);
        e.due(0, "book", 0, 100);
    }

    @Says(promise = 40, text = {"(-1: nobody)", "ON n YEARS (0 to 100)"})
    static void p40NobodyInEachSizeOfNumbersAndFrom0To100Years(Edge e) {
        for (int bits : BITS) {
            e.anew();
            e.call("person", 0, 20);
            e.call("person", 0, 0);
            e.call("set", 0, 3, 120);
            e.call("set", 1, 3, 120);
            e.call("sheet", 0, bits, 2);
            e.due(2, "book", 0, 0);
            e.dueNumbers(0, 1, 0);
            e.due(2, "book", 0, 99);
            e.dueNumbers(0, 1, 0);
            e.due(2, "book", 0, 100);
            e.dueNumbers(0, 1, -1);
            e.due(0, "now", 0);
        }
    }

    @Says(promise = 40, text = "BEYOND: no such sheet.")
    static void p40NoSuchSheet(Edge e) {
        for (int s : NO_SHEET) {
            e.refused(Edge.BEYOND, "book", s, 0);
        }
    }

    @Says(promise = 40, text = "MISSING.")
    static void p40MissingIsAskedAheadOfN(Edge e) {
        e.refused(Edge.MISSING, "book", 3, 0);
        e.refused(Edge.MISSING, "book", 3, 101);
    }

    @Says(promise = 40, text = "BEYOND: n.")
    static void p40BeyondByN(Edge e) {
        for (int n : new int[] {-1, 101, Edge.MIN, Edge.MAX}) {
            e.refused(Edge.BEYOND, "book", 0, n);
        }
    }

    @Says(promise = 40, text = "STATE: YEAR would be above 9999.")
    static void p40UpTo9999AndNoFurther(Edge e) {
        e.goTo(9899);
        e.call("sheet", 0, 8, 1);
        e.due(0, "book", 0, 100);
        e.call("years", 1);
        e.due(Edge.STATE, "book", 0, 100);
        e.due(0, "book", 0, 99);
        e.due(Edge.BEYOND, "book", 0, 101);
        e.due(Edge.MISSING, "book", 1, 100);
        e.due(Edge.BEYOND, "book", 4, 100);
        e.call("years", 99);
        e.due(0, "book", 0, 0);
        e.due(Edge.STATE, "book", 0, 1);
        e.refusedAfter(x -> {
            x.goTo(9950);
            x.liveIn();
        }, Edge.STATE, "book", 0, 48);
    }

    // ---- promise 41

    @Says(promise = 41, text = "numbers of a sheet are WAYS of MARKS 0, 1, .. of a stranger with no CHILD")
    static void p41FromMark0ToMark8(Edge e) {
        for (int m = 0; m < 9; m++) {
            e.anew();
            e.people(0, 0);
            e.call("sheet", 0, 8, 9);
            e.due(0, "read", 0);
            e.call("be", 1, m, 3);
            e.due(0, "read", 0);
            e.call("write", 0, m, 3);
            e.due(1, "read", 0);
            e.call("write", 0, m, 2);
            e.due(0, "read", 0);
        }
    }

    @Says(promise = 41, text = "(other numbers, and those for which there is none: not known; that MARK counts for nobody)")
    static void p41WhatIsNotKnownCountsForNobody(Edge e) {
        e.people(0, 4);
        e.call("be", 0, 7, 1);
        e.numbers(0, 64, 9, 9, 9, 9, 9, 9, 9, 0, 9);
        e.due(1, "read", 0);
        for (long v : new long[] {-1, 4, 1L << 32, Long.MIN_VALUE, Long.MAX_VALUE}) {
            e.call("write", 0, 7, v);
            e.due(0, "read", 0);
        }
        e.call("write", 0, 8, 4);
        e.due(0, "read", 0);
        e.call("be", 0, 8, 1);
        for (int v = 0; v < 4; v++) {
            e.call("write", 0, 8, v);
            e.due(v == 1 ? 0 : 1, "read", 0);
        }
        e.call("sheet", 0, 64, 8);
        e.call("write", 0, 7, 1);
        e.due(0, "read", 0);
    }

    @Says(promise = 41, text = "those for which there is none: not known")
    static void p41EmptyShortAndLongSheets(Edge e) {
        e.people(0, 0, 0);
        e.call("sheet", 0, 8, 0);
        e.due(0, "read", 0);
        e.call("set", 2, 1, 31);
        e.due(2, "read", 0);
        e.call("be", 2, 0, 1);
        e.call("sheet", 0, 8, 1);
        e.due(0, "read", 0);
        e.call("set", 2, 1, 120);
        e.due(0, "read", 0);
        e.call("sheet", 0, 8, 40);
        e.due(0, "read", 0);
        e.call("write", 0, 0, 1);
        e.due(2, "read", 0);
    }

    @Says(promise = 41, text = "that MARK counts for nobody")
    static void p41OtherNumbersAreNotReadByTheirLowestBits(Edge e) {
        long[] others = {-1, -2, -4, 4, 6, 7, 1L << 32, (1L << 32) + 1, Long.MAX_VALUE};
        e.people(0, 0);
        e.call("sheet", 0, 64, 9);
        for (int m = 0; m < 9; m++) {
            for (long other : others) {
                int low = (int) (other & 3);
                e.call("be", 0, m, (low + 1) % 4);
                e.call("be", 1, m, low);
                e.call("write", 0, m, other);
                e.due(0, "read", 0);
            }
            e.call("be", 0, m, 0);
            e.call("be", 1, m, 0);
            e.call("write", 0, m, 0);
        }
    }

    @Says(promise = 41, text = "those for which there is none: not known; that MARK counts for nobody")
    static void p41MarksForWhichThereIsNoNumberAreNotRead(Edge e) {
        for (int m = 0; m < 9; m++) {
            e.anew();
            e.people(0, 0);
            e.call("be", 0, m, 1);
            e.call("sheet", 0, 8, m);
            e.due(0, "read", 0);
            e.call("sheet", 0, 8, m + 1);
            e.due(1, "read", 0);
        }
    }

    @Says(promise = 41, text = "of a stranger with no CHILD")
    static void p41NobodyIsAStrangersChild(Edge e) {
        for (int unlike = 0; unlike < 12; unlike++) {
            e.anew();
            e.twelve(0, 30);
            e.call("let", 1);
            for (int one = 0; one < 12; one++) {
                e.call("set", one, 4, one == unlike ? -1 : unlike);
            }
            e.call("be", unlike, 0, 1);
            e.call("sheet", 0, 8, 9);
            e.due(unlike == 0 ? 1 : 0, "read", 0);
        }
    }

    @Says(promise = 41, text = "who of the LIVING would be its HEIR")
    static void p41TheLastOfTwelveAndTheOnlyLivingOne(Edge e) {
        e.twelve(0, 30);
        e.call("sheet", 0, 8, 9);
        e.call("set", 11, 1, 31);
        e.due(11, "read", 0);
        e.call("set", 11, 5, 0);
        e.due(0, "read", 0);
        for (int one = 0; one < 11; one++) {
            e.call("set", one, 5, 0);
        }
        e.call("set", 11, 5, 1);
        e.due(11, "read", 0);
    }

    @Says(promise = 41, text = "BEYOND: no such sheet.")
    static void p41NoSuchSheet(Edge e) {
        for (int s : NO_SHEET) {
            e.refused(Edge.BEYOND, "read", s);
        }
    }

    @Says(promise = 41, text = "MISSING.")
    static void p41MissingIsAskedAheadOfNone(Edge e) {
        e.refused(Edge.MISSING, "read", 3);
        e.due(Edge.MISSING, "read", 3);
    }

    @Says(promise = 41, text = "NONE: nobody LIVES.")
    static void p41NobodyLives(Edge e) {
        e.due(Edge.MISSING, "read", 0);
        e.call("sheet", 0, 8, 9);
        e.due(Edge.NONE, "read", 0);
        e.people(0);
        e.due(0, "read", 0);
        e.call("dies", 0);
        e.due(Edge.NONE, "read", 0);
        e.refusedAfter(x -> {
            x.liveIn();
            x.call("years", 100);
        }, Edge.NONE, "read", 0);
    }
}
