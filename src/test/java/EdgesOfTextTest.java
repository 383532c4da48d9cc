/** The boundaries of promises 33 to 35, and of what section 1 says of THE TEXT of a VALLEY. */
public final class EdgesOfTextTest {
    private static final int MOST_BYTES = 120;

    public static void main(String[] args) throws Exception {
        Edge.run(EdgesOfTextTest.class);
    }

    /** The text is taken, in a valley in which one is there. */
    private static void taken(Edge e, int items, String text) {
        e.anew();
        e.people(0);
        e.feed(text);
        e.due(text.length(), "count", 1);
        e.due(items, "valley");
        e.due(0, "count", 1);
        e.due(0, "status", -1);
    }

    /** The text has a FAULT at a place: nothing of it comes to the valley, in which one is there. */
    private static void fault(Edge e, int place, String text) {
        taken(e, -1 - place, text);
        e.due(1, "count", 0);
        e.due(9, "count", 2);
        e.due(0, "now", 1);
        e.dueOf(0, 0, 30, 10, 70, -1, 1);
    }

    private static String spaces(int n) {
        return " ".repeat(n);
    }

    // ---- section 1: TOKENS and TEXT

    @Says(promise = 0, text = "THE TEXT of a VALLEY, from THE TAPE (bytes, at most 120).")
    static void s1TextsOf120Bytes(Edge e) {
        taken(e, 1, spaces(MOST_BYTES - 3) + "kin");
        taken(e, 1, "kin" + spaces(MOST_BYTES - 3));
        taken(e, 20, "law 2;".repeat(19) + " law 2");
        e.due(2, "now", 1);
        taken(e, 1, "law " + "0".repeat(MOST_BYTES - 5) + "2");
        e.due(2, "now", 1);
        fault(e, MOST_BYTES - 1, spaces(MOST_BYTES - 1) + "x");
        fault(e, MOST_BYTES - 3, spaces(MOST_BYTES - 3) + "kim");
    }

    @Says(promise = 0, text = "TEXT: ITEM { ; ITEM }.")
    static void s1FromOneItemTo26(Edge e) {
        taken(e, 1, "kin");
        taken(e, 2, "kin;kin");
        e.anew();
        e.feed("kin;".repeat(12) + "law1;".repeat(13) + "law2");
        e.due(117, "count", 1);
        e.due(26, "valley");
        e.due(12, "count", 0);
        e.due(2, "now", 1);
    }

    @Says(promise = 0, text = "TEXT: ITEM { ; ITEM }.")
    static void s1AnItemStandsOnBothSidesOfASign(Edge e) {
        fault(e, 0, ";");
        fault(e, 0, ";kin");
        fault(e, 4, "kin;;kin");
        fault(e, 4, "kin;");
        fault(e, 4, "kin kin");
        fault(e, 6, "law 1 law 1");
        fault(e, 7, "mark 1 kin");
    }

    @Says(promise = 0, text = "TOKENS, each as long as can be: WORDS (letters a to z), NUMBERS (digits), SIGN ; ; blanks may "
        + "stand between.")
    static void s1TokensAreAsLongAsCanBe(Edge e) {
        fault(e, 0, "kinkin");
        fault(e, 0, "kinage 3");
        fault(e, 4, "kin agex 3");
        fault(e, 4, "law 11");
        taken(e, 1, "kin like3age4goods5term6child0");
        e.dueOf(1, 3, 4, 5, 6, 0, 1);
        e.dueWays(1, 3, 0);
        taken(e, 3, "mark8weighs9costs9;law2;kin");
    }

    @Says(promise = 0, text = "blanks may stand between")
    static void s1BlanksStandAheadBetweenAndBehind(Edge e) {
        taken(e, 2, "  kin   age   3   ;   law   2   ");
        taken(e, 2, "kin age 3;law 2");
        fault(e, 0, "k in");
        fault(e, 6, "law 1 1");
    }

    @Says(promise = 0, text = {"WORDS (letters a to z), NUMBERS (digits), SIGN ;", "a byte that begins no TOKEN"})
    static void s1NoOtherByteBeginsAToken(Edge e) {
        int[] bytes = {0, 1, 9, 10, 13, 31, 33, 45, 47, 58, 60, 64, 65, 90, 96, 123, 127, 128, 160, 225, 255};
        for (int b : bytes) {
            fault(e, 3, "kin" + (char) b);
            fault(e, 4, "kin " + (char) b);
            fault(e, 0, (char) b + "kin");
            fault(e, 5, "law 1" + (char) b);
        }
    }

    @Says(promise = 0, text = "WORDS (letters a to z)")
    static void s1TheFirstAndTheLastLetterAreLetters(Edge e) {
        fault(e, 4, "kin a#");
        fault(e, 4, "kin z#");
        fault(e, 0, "kina#");
        fault(e, 0, "kinz#");
        fault(e, 0, "akin");
        fault(e, 0, "zkin");
        fault(e, 0, "KIN");
    }

    @Says(promise = 0, text = "NUMBERS (digits)")
    static void s1TheFirstAndTheLastDigitAreDigits(Edge e) {
        taken(e, 1, "kin age 0");
        taken(e, 1, "kin age 9");
        taken(e, 1, "kin age 90");
        e.due(90, "of", 1, 1);
    }

    // ---- section 1: ITEMS

    @Says(promise = 0, text = "ITEM: the name of a KIND (person copier shunner kin sworn twin)")
    static void s1NamesOfKindsWholeAndNoOthers(Edge e) {
        String[] names = {"person", "copier", "shunner", "kin", "sworn", "twin"};
        for (int kind = 0; kind < 6; kind++) {
            String name = names[kind];
            taken(e, 1, name);
            e.dueOf(1, kind, 0, 10, 70, -1, 1);
            fault(e, 0, name.substring(1));
            fault(e, 0, name.substring(0, name.length() - 1));
            fault(e, 0, name + "s");
            fault(e, 0, "x" + name.substring(1));
            fault(e, 0, name.substring(0, name.length() - 1) + "x");
        }
        fault(e, 0, "kind");
        fault(e, 0, "like");
        fault(e, 0, "age 3");
    }

    @Says(promise = 0, text = "perhaps like and a NUMBER (999999999 at most, of digits 0 to 3 alone; from its end on: WAYS "
        + "of MARKS 0, 1, ..)")
    static void s1LikeFrom0To333333333(Edge e) {
        taken(e, 1, "kin like 0");
        e.dueWays(1, 0, 0, 0, 0, 0, 0, 0, 0, 0);
        taken(e, 1, "kin like 3");
        e.dueWays(1, 3, 0, 0, 0, 0, 0, 0, 0, 0);
        taken(e, 1, "kin like 300000000");
        e.dueWays(1, 0, 0, 0, 0, 0, 0, 0, 0, 3);
        taken(e, 1, "kin like 333333333");
        e.dueWays(1, 3, 3, 3, 3, 3, 3, 3, 3, 3);
        taken(e, 1, "kin like 012301230");
        e.dueWays(1, 0, 3, 2, 1, 0, 3, 2, 1, 0);
    }

    @Says(promise = 0, text = "999999999 at most, of digits 0 to 3 alone")
    static void s1LikeOfOtherDigitsOrAbove999999999(Edge e) {
        for (int m = 0; m < 9; m++) {
            String zeros = "0".repeat(m);
            fault(e, 9, "kin like 4" + zeros);
            fault(e, 9, "kin like 9" + zeros);
        }
        fault(e, 9, "kin like 333333334");
        fault(e, 9, "kin like 1000000000");
        fault(e, 9, "kin like 3333333333");
        fault(e, 9, "kin like 4294967296");
        fault(e, 9, "kin like 1" + "0".repeat(60));
        taken(e, 1, "kin like 0333333333");
        e.dueWays(1, 3, 3, 3, 3, 3, 3, 3, 3, 3);
    }

    @Says(promise = 0, text = "perhaps age and a NUMBER (0 to 120)")
    static void s1AgeFrom0To120(Edge e) {
        taken(e, 1, "kin age 0");
        e.due(0, "of", 1, 1);
        taken(e, 1, "kin age 120");
        e.due(120, "of", 1, 1);
        fault(e, 8, "kin age 121");
        fault(e, 8, "kin age 4294967296");
    }

    @Says(promise = 0, text = "perhaps goods and a NUMBER (0 to 999999)")
    static void s1GoodsFrom0To999999(Edge e) {
        taken(e, 1, "kin goods 0");
        e.due(0, "of", 1, 2);
        taken(e, 1, "kin goods 999999");
        e.due(999999, "of", 1, 2);
        fault(e, 10, "kin goods 1000000");
        fault(e, 10, "kin goods 4294967297");
    }

    @Says(promise = 0, text = "perhaps term and a NUMBER (1 to 120)")
    static void s1TermFrom1To120(Edge e) {
        taken(e, 1, "kin term 1");
        e.due(1, "of", 1, 3);
        taken(e, 1, "kin term 120");
        e.due(120, "of", 1, 3);
        fault(e, 9, "kin term 0");
        fault(e, 9, "kin term 121");
    }

    @Says(promise = 0, text = "perhaps child and a NUMBER (one there ahead of it): a new one, LIVING")
    static void s1ChildFrom0ToTheOneAheadOfIt(Edge e) {
        taken(e, 1, "kin child 0");
        e.due(0, "of", 1, 4);
        fault(e, 10, "kin child 1");
        fault(e, 10, "kin child 2");
        taken(e, 3, "kin;kin child 1;kin child 2");
        e.due(1, "of", 2, 4);
        e.due(2, "of", 3, 4);
        fault(e, 14, "kin;kin child 2");
        fault(e, 10, "kin child 1;kin");
        e.anew();
        e.feed("kin child 0");
        e.due(-11, "valley");
        e.anew();
        for (int i = 0; i < 11; i++) {
            e.people(0);
        }
        e.call("set", 10, 5, 0);
        e.feed("kin child 10");
        e.due(1, "valley");
        e.dueOf(11, 3, 0, 10, 70, 10, 1);
    }

    @Says(promise = 0, text = "mark, a NUMBER (0 to 8), perhaps weighs and a NUMBER (0 to 9), perhaps costs and a NUMBER "
        + "(0 to 99)")
    static void s1MarkFrom0To8WeighsFrom0To9CostsFrom0To99(Edge e) {
        for (int m = 0; m < 9; m += 8) {
            taken(e, 1, "mark " + m + " weighs 0 costs 0");
            e.due(0, "mark", m, 0, 1);
            e.due(0, "mark", m, 1, 1);
            taken(e, 1, "mark " + m + " weighs 9 costs 99");
            e.due(9, "mark", m, 0, 1);
            e.due(99, "mark", m, 1, 1);
        }
        taken(e, 1, "mark 8");
        e.due(1, "mark", 8, 0, 1);
        e.due(2, "mark", 8, 1, 1);
        taken(e, 1, "mark 8 costs 7");
        e.due(1, "mark", 8, 0, 1);
        e.due(7, "mark", 8, 1, 1);
        fault(e, 5, "mark 9");
        fault(e, 5, "mark 10 weighs 1");
        fault(e, 14, "mark 0 weighs 10");
        fault(e, 13, "mark 0 costs 100");
        fault(e, 22, "mark 0 weighs 9 costs 100");
        fault(e, 15, "mark 0 costs 9 weighs 1");
    }

    @Says(promise = 0, text = "law and a NUMBER (0 to 2).")
    static void s1LawFrom0To2(Edge e) {
        taken(e, 1, "law 2");
        e.due(2, "now", 1);
        taken(e, 2, "law 2;law 0");
        e.due(0, "now", 1);
        fault(e, 4, "law 3");
        fault(e, 4, "law 99999999999999999999");
        fault(e, 6, "law 1 1");
    }

    @Says(promise = 0, text = "perhaps like and a NUMBER")
    static void s1PartsStandInTheirOrderAndOnceEach(Edge e) {
        String[] parts = {"like 1", "age 1", "goods 1", "term 1", "child 0"};
        for (int first = 0; first < parts.length; first++) {
            for (int second = 0; second < parts.length; second++) {
                String text = "kin " + parts[first] + " " + parts[second];
                if (second > first) {
                    taken(e, 1, text);
                } else {
                    fault(e, 5 + parts[first].length(), text);
                }
            }
        }
        fault(e, 16, "mark 1 weighs 1 weighs 1");
        fault(e, 15, "mark 1 costs 1 costs 1");
        fault(e, 24, "mark 1 weighs 1 costs 1 costs 1");
    }

    // ---- section 1: FAULT

    @Says(promise = 0, text = "FAULT: the place (from 0) of the first byte of the first TOKEN that can't stand there")
    static void s1TheFirstFaultIsTold(Edge e) {
        fault(e, 0, "x#");
        fault(e, 0, "#x");
        fault(e, 0, "7");
        fault(e, 8, "kin age 121 age #");
        fault(e, 4, "kin # age 121");
        fault(e, 5, "mark 9 weighs 10");
        fault(e, 4, "law 3;law 4");
        fault(e, 10, "law 2;law 4");
        fault(e, 7, "kin;   x");
    }

    @Says(promise = 0, text = "(a NUMBER that may not be, another WORD, a byte that begins no TOKEN")
    static void s1WhatIsNoNumberWhereOneIsDue(Edge e) {
        String[] ahead = {"kin like ", "kin age ", "kin goods ", "kin term ", "kin child ", "mark ", "mark 0 weighs ",
            "mark 0 costs ", "law "};
        for (String a : ahead) {
            fault(e, a.length(), a + "kin");
            fault(e, a.length(), a + ";");
            fault(e, a.length(), a + "-1");
            fault(e, a.length(), a);
            fault(e, a.length() - 1, a.substring(0, a.length() - 1));
        }
    }

    @Says(promise = 0, text = "the name of a KIND for a 13th: its own)")
    static void s1TheNameOfThe13th(Edge e) {
        for (String name : new String[] {"person", "copier", "shunner", "kin", "sworn", "twin"}) {
            e.anew();
            e.twelve(0, 1);
            e.feed("law 1;" + name);
            e.due(-7, "valley");
            e.due(0, "now", 1);
        }
        e.anew();
        e.feed("kin;".repeat(12) + "kin age 121");
        e.due(-49, "valley");
        e.due(0, "count", 0);
        e.feed("kin;".repeat(12) + "law 1");
        e.due(13, "valley");
        e.feed("kin age 121");
        e.due(-1, "valley");
        e.feed("mark 8 costs 9;law 0");
        e.due(2, "valley");
    }

    @Says(promise = 0, text = "or how many bytes there are if it ends too early")
    static void s1ItEndsTooEarly(Edge e) {
        fault(e, 0, "");
        fault(e, 1, " ");
        fault(e, MOST_BYTES, spaces(MOST_BYTES));
        fault(e, 4, "kin;");
        fault(e, 6, "kin;  ");
        fault(e, 7, "kin age");
        fault(e, 9, "kin age  ");
        fault(e, 3, "law");
        fault(e, MOST_BYTES, "law 2;".repeat(20));
        fault(e, MOST_BYTES, spaces(MOST_BYTES - 3) + "law");
        fault(e, MOST_BYTES, "mark" + spaces(MOST_BYTES - 4));
    }

    // ---- promise 33

    @Says(promise = 33, text = "THE TAPE gets the n lowest bytes of a number behind it, the highest of these first (n 1 to "
        + "4): how many it has.")
    static void p33From1To4Bytes(Edge e) {
        int[] fed = {0x6b << 16 | 0x69 << 8 | 0x6e, 0x6c617732, 0x6177, 0x32};
        e.due(3, "feed", 0x7f000000 | fed[0], 3);
        e.due(4, "feed", 0x7f7f7f00 | ';', 1);
        e.due(8, "feed", fed[1], 4);
        e.due(9, "feed", 0x80808000 | ';', 1);
        e.due(10, "feed", 0xffffff00 | 'l', 1);
        e.due(12, "feed", 0x80800000 | fed[2], 2);
        e.due(13, "feed", fed[3], 1);
        e.due(3, "valley");
        e.due(2, "now", 1);
    }

    @Says(promise = 33, text = "THE TAPE gets the n lowest bytes of a number behind it")
    static void p33BytesFrom0To255(Edge e) {
        e.due(4, "feed", -1, 4);
        e.due(8, "feed", 0, 4);
        e.due(12, "feed", Edge.MIN, 4);
        e.due(16, "feed", Edge.MAX, 4);
        e.due(-1, "valley");
        e.due(1, "feed", Edge.MAX, 1);
        e.due(2, "feed", Edge.MIN, 1);
        e.due(2, "wipe");
    }

    @Says(promise = 33, text = "BEYOND: n.")
    static void p33Beyond(Edge e) {
        for (int n : new int[] {0, -1, 5, Edge.MIN, Edge.MAX}) {
            e.refused(Edge.BEYOND, "feed", 'k', n);
        }
    }

    @Says(promise = 33, text = "FULL.")
    static void p33UpTo120BytesAndNoFurther(Edge e) {
        for (int n = 1; n <= 4; n++) {
            e.anew();
            for (int had = 0; had + n <= MOST_BYTES; had += n) {
                e.due(had + n, "feed", 0, n);
            }
            e.due(MOST_BYTES, "count", 1);
            for (int more = 1; more <= 4; more++) {
                e.due(Edge.FULL, "feed", 0, more);
            }
            e.due(MOST_BYTES, "wipe");
            e.due(n, "feed", 0, n);
        }
    }

    @Says(promise = 33, text = "FULL.")
    static void p33NothingOfWhatIsTooMuchComes(Edge e) {
        for (int left = 0; left < 4; left++) {
            int room = left;
            for (int n = left + 1; n <= 4; n++) {
                e.refusedAfter(x -> {
                    x.feed("kin age 7;" + spaces(MOST_BYTES - 15 - room) + "law 1");
                    x.due(MOST_BYTES - room, "count", 1);
                }, Edge.FULL, "feed", '2', n);
            }
            if (left > 0) {
                e.anew();
                e.feed(spaces(MOST_BYTES - left));
                e.due(MOST_BYTES, "feed", 0, left);
            }
        }
    }

    @Says(promise = 33, text = {"BEYOND: n.", "FULL."})
    static void p33BeyondIsAskedAheadOfFull(Edge e) {
        e.feed(spaces(MOST_BYTES));
        for (int n : new int[] {0, -1, 5, Edge.MAX}) {
            e.due(Edge.BEYOND, "feed", 0, n);
        }
        e.due(Edge.FULL, "feed", 0, 4);
    }

    // ---- promise 34

    @Says(promise = 34, text = "THE TAPE is empty: how many it had.")
    static void p34From0To120(Edge e) {
        e.due(0, "wipe");
        e.feed("x");
        e.due(1, "wipe");
        e.due(0, "wipe");
        e.feed(spaces(MOST_BYTES));
        e.due(MOST_BYTES, "wipe");
        e.due(0, "count", 1);
        e.due(-1, "valley");
        e.due(0, "status", -1);
    }

    @Says(promise = 34, text = "THE TAPE is empty")
    static void p34NothingOfWhatWasThereIsRead(Edge e) {
        e.feed("law 2222222222;kin");
        e.call("wipe");
        e.feed("law 1");
        e.due(1, "valley");
        e.due(1, "now", 1);
        e.due(0, "count", 0);
    }

    // ---- promise 35

    @Says(promise = 35, text = "THE TAPE is THE TEXT of a VALLEY, whose ITEMS come to what there is, and empty then: how many "
        + "ITEMS.")
    static void p35ItemsComeToWhatThereIs(Edge e) {
        e.liveIn();
        e.due(15, "count", 1);
        e.due(2, "valley");
        e.due(0, "count", 1);
        e.due(5, "count", 0);
        e.dueOf(4, 3, 7, 10, 70, -1, 1);
        e.dueWays(4, 0, 0, 0, 0, 0, 0, 0, 0, 0);
        e.due(1, "now", 1);
        e.due(2, "now", 0);
        e.dueOf(2, 2, 32, 5, 70, -1, 0);
        e.dueWays(3, 1, 0, 0, 3, 0, 0, 0, 0, 2);
        e.due(7, "mark", 3, 0, 1);
        e.due(9, "mark", 4, 1, 1);
        e.due(1, "status", -1);
        e.due(2, "undo");
    }

    @Says(promise = 35, text = "and empty then")
    static void p35TheSameTextIsNotReadTwice(Edge e) {
        e.feed("kin");
        e.due(1, "valley");
        e.due(-1, "valley");
        e.due(1, "count", 0);
    }

    @Says(promise = 35, text = "With a FAULT: -1 less its place (nothing changes but that THE TAPE is empty; no finding).")
    static void p35FromMinus1ToMinus121(Edge e) {
        e.due(-1, "valley");
        for (int place = 0; place <= MOST_BYTES; place += 20) {
            e.anew();
            e.feed(spaces(place) + (place < MOST_BYTES ? "#" : ""));
            e.due(-1 - place, "valley");
            e.due(0, "count", 1);
            e.due(0, "status", -1);
        }
    }

    @Says(promise = 35, text = "(nothing changes but that THE TAPE is empty; no finding)")
    static void p35AFaultInTheLastTokenLeavesAllAsItWas(Edge e) {
        e.liveIn();
        e.call("wipe");
        e.feed("law 0;mark 3 weighs 1 costs 50;twin like 3 age 9 goods 9 term 9 child 2;sworn;law 3");
        e.due(-83, "valley");
        e.due(0, "count", 1);
        e.due(4, "count", 0);
        e.due(3, "now", 2);
        e.due(2, "now", 1);
        e.due(7, "mark", 3, 0, 1);
        e.due(2, "mark", 3, 1, 1);
        e.due(1, "status", -1);
        e.due(4, "person", 2, 50);
        e.dueOf(4, 2, 50, 10, 70, -1, 1);
        e.dueWays(4, 0, 0, 0, 0, 0, 0, 0, 0, 0);
        e.due(2, "undo");
    }
}
