/** Promises 33 to 35: feed, wipe, valley. */
public final class TextTest {
    private static final Check CHECK = new Check();

    public static void main(String[] args) {
        feed();
        wipe();
        people();
        marksAndLaws();
        comesToWhatThereIs();
        tokens();
        wordsThatCannotStand();
        endsTooEarly();
        numbersThatMayNotBe();
        looks();
        bytesOfNoToken();
        thirteen();
        nothingChangesAtAFault();
        CHECK.end();
    }

    private static void feed() {
        LikestHeir x = new LikestHeir();
        CHECK.due("33: n", x.feed(0, 0), Check.BEYOND);
        CHECK.due("33: n", x.feed(0, 5), Check.BEYOND);
        CHECK.due("33: n", x.feed(0, -1), Check.BEYOND);
        CHECK.due("33: the lowest bytes, the highest first", x.feed('x' << 24 | 'l' << 16 | 'a' << 8 | 'w', 3), 3);
        CHECK.due("33: one byte", x.feed(0x31313100 | '2', 1), 4);
        CHECK.due("33: law2", x.valley(), 1);
        CHECK.due("33: LAW", x.now(1), 2);
        for (int i = 1; i <= 29; i++) {
            CHECK.due("33: how many it has", x.feed(-1, 4), 4 * i);
        }
        CHECK.due("33: 118", x.feed(0, 2), 118);
        CHECK.due("33: FULL", x.feed(0, 3), Check.FULL);
        CHECK.due("33: BEYOND is asked ahead of FULL", x.feed(0, 5), Check.BEYOND);
        CHECK.due("33: count(1)", x.count(1), 118);
        CHECK.due("33: 120", x.feed(0, 2), 120);
        CHECK.due("33: FULL", x.feed(0, 1), Check.FULL);
        CHECK.due("33: status(1)", x.status(1), 2);
    }

    private static void wipe() {
        LikestHeir x = new LikestHeir();
        x.feed('l' << 16 | 'a' << 8 | 'w', 3);
        CHECK.due("34: how many it had", x.wipe(), 3);
        CHECK.due("34: it is empty", x.wipe(), 0);
        CHECK.due("34: count(1)", x.count(1), 0);
        x.feed('l' << 24 | 'a' << 16 | 'w' << 8 | '1', 4);
        CHECK.due("34: and begins anew", x.valley(), 1);
        Check.feedText(x, "law 19;law 1");
        x.wipe();
        Check.feedText(x, "law 1");
        CHECK.due("34: what was there is gone", x.valley(), 1);
        Check.feedText(x, "kin      ");
        x.wipe();
        Check.feedText(x, "law");
        CHECK.due("34: blanks, too", x.valley(), -4);
    }

    private static int read(LikestHeir x, String text) {
        Check.feedText(x, text);
        int answer = x.valley();
        CHECK.due("35: THE TAPE is empty then", x.count(1), 0);
        return answer;
    }

    private static void fault(String text, int place) {
        LikestHeir x = new LikestHeir();
        x.person(0, 50);
        CHECK.due("35: '" + text + "'", read(x, text), -1 - place);
        CHECK.due("35: nobody came", x.count(0), 1);
        CHECK.due("35: no finding", x.status(-1), 0);
    }

    private static void fine(String text, int items) {
        LikestHeir x = new LikestHeir();
        x.person(0, 50);
        CHECK.due("35: '" + text + "'", read(x, text), items);
    }

    private static void people() {
        LikestHeir x = new LikestHeir();
        CHECK.due("35: six", read(x, "person;copier;shunner;kin;sworn;twin"), 6);
        for (int kind = 0; kind < 6; kind++) {
            int[] are = {kind, 0, 10, 70, -1, 1};
            for (int what = 0; what < 6; what++) {
                CHECK.due("35: of(" + kind + ", " + what + ")", x.of(kind, what), are[what]);
            }
            for (int m = 0; m < 9; m++) {
                CHECK.due("35: WAYS", x.way(kind, m), 0);
            }
        }
        CHECK.due("35: all that one can be", read(x, "twin like 321032103 age 120 goods 999999 term 1 child 5"), 1);
        int[] are = {5, 120, 999999, 1, 5, 1};
        for (int what = 0; what < 6; what++) {
            CHECK.due("35: of(6, " + what + ")", x.of(6, what), are[what]);
        }
        int[] ways = {3, 0, 1, 2, 3, 0, 1, 2, 3};
        for (int m = 0; m < 9; m++) {
            CHECK.due("35: WAY of MARK " + m, x.way(6, m), ways[m]);
        }
        CHECK.due("35: a few parts", read(x, "kin goods 0 child 6; sworn age 7 term 120"), 2);
        CHECK.due("35: GOODS", x.of(7, 2), 0);
        CHECK.due("35: CHILD", x.of(7, 4), 6);
        CHECK.due("35: AGE", x.of(8, 1), 7);
        CHECK.due("35: TERM", x.of(8, 3), 120);
    }

    private static void marksAndLaws() {
        LikestHeir x = new LikestHeir();
        CHECK.due("35: marks", read(x, "mark 0 weighs 9 costs 99;mark 8 weighs 0;mark 3 costs 0;mark 4;law 2"), 5);
        int[] weighs = {9, 1, 1, 1, 1, 1, 1, 1, 0};
        int[] costs = {99, 2, 2, 0, 2, 2, 2, 2, 2};
        CHECK.due("35: all WEIGH together", x.count(2), 16);
        for (int m = 0; m < 9; m++) {
            CHECK.due("35: WEIGHS", x.mark(m, 0, 1), weighs[m]);
            CHECK.due("35: COSTS", x.mark(m, 1, 1), costs[m]);
        }
        CHECK.due("35: LAW", x.now(1), 2);
        CHECK.due("35: the last one holds", read(x, "law 1;law 0"), 2);
        CHECK.due("35: LAW", x.now(1), 0);
    }

    private static void comesToWhatThereIs() {
        LikestHeir x = new LikestHeir();
        x.person(1, 33);
        x.be(0, 2, 3);
        x.mark(1, 0, 7);
        x.let(1);
        x.years(4);
        CHECK.due("35: one more", read(x, "kin child 0"), 1);
        CHECK.due("35: PEOPLE", x.count(0), 2);
        CHECK.due("35: CHILD", x.of(1, 4), 0);
        CHECK.due("35: AGE of 0", x.of(0, 1), 37);
        CHECK.due("35: WAY of 0", x.way(0, 2), 3);
        CHECK.due("35: MARK 1", x.mark(1, 0, 1), 7);
        CHECK.due("35: LAW", x.now(1), 1);
        CHECK.due("35: YEAR", x.now(0), 4);
        CHECK.due("35: a child of the same text", read(x, "person;person child 2"), 2);
        CHECK.due("35: CHILD", x.of(3, 4), 2);
    }

    private static void tokens() {
        fine("  person  ", 1);
        fine("person;person", 2);
        fine(" person ; person ", 2);
        fine("personlike", -1);
        fine("person like12age3goods4term5child0", 1);
        fine("mark3weighs4costs5;law0", 2);
        fine("person like 0", 1);
        fine("person age 0", 1);
        fine("person age 0000000000000000000120", 1);
        fine("law 00", 1);
        fine("person" + " ".repeat(114), 1);
        fine(" ".repeat(114) + "person", 1);
        fine(" ".repeat(115) + "law 1", 1);
        fine("law 2;".repeat(19) + " law 2", 20);
        fine("law " + "0".repeat(115) + "2", 1);
    }

    private static void wordsThatCannotStand() {
        fault("people", 0);
        fault("personx", 0);
        fault("perso", 0);
        fault("xerson", 0);
        fault("persox", 0);
        fault("person z", 7);
        fault("personz", 0);
        fault("person; za", 8);
        fault("law 1z#", 5);
        fault("Person", 0);
        fault(" kind", 1);
        fault("7", 0);
        fault(";", 0);
        fault("person;;person", 7);
        fault("person person", 7);
        fault("person 7", 7);
        fault("person age 7 7", 13);
        fault("person age 7 like 1", 13);
        fault("person goods 7 age 1", 15);
        fault("person term 7 goods 1", 14);
        fault("person child 0 term 1", 15);
        fault("person child 0 child 0", 15);
        fault("person age 1 age 1", 13);
        fault("person weighs 1", 7);
        fault("mark 1 costs 1 weighs 1", 15);
        fault("mark 1 age 1", 7);
        fault("mark weighs 1", 5);
        fault("law law", 4);
        fault("law 1 1", 6);
        fault("law 1 law 1", 6);
        fault("law 1;age 4", 6);
        fault("person like age", 12);
        fault("person like ;", 12);
    }

    private static void endsTooEarly() {
        fault("", 0);
        fault("   ", 3);
        fault("person;", 7);
        fault("person ; ", 9);
        fault("person age", 10);
        fault("person like ", 12);
        fault("person child", 12);
        fault("mark", 4);
        fault("mark ", 5);
        fault("mark 1 weighs", 13);
        fault("mark 1 weighs 1 costs ", 22);
        fault("law", 3);
        fault(" ".repeat(120), 120);
        fault("law 2;".repeat(20), 120);
        fault(" ".repeat(117) + "law", 120);
    }

    private static void numbersThatMayNotBe() {
        fault("person age 121", 11);
        fault("person goods 1000000", 13);
        fault("person term 0", 12);
        fault("person term 121", 12);
        fault("person child 1", 13);
        fault("person child 4294967296", 13);
        fault("mark 9", 5);
        fault("mark 8 weighs 10", 14);
        fault("mark 8 costs 100", 13);
        fault("law 3", 4);
        fault("law 4294967296", 4);
        fault("law 18446744073709551616", 4);
        fault("law 99999999999999999999999999999999999999999999999", 4);
        LikestHeir x = new LikestHeir();
        CHECK.due("35: nobody is there ahead of it", read(x, "kin child 0"), -11);
        CHECK.due("35: it isn't there ahead of itself", read(x, "person;kin child 1"), -18);
        CHECK.due("35: another one is", read(x, "person;kin child 0"), 2);
    }

    private static void looks() {
        fault("person like 4", 12);
        fault("person like 104", 12);
        fault("person like 900000000", 12);
        fault("person like 1000000000", 12);
        fault("person like 0000000004", 12);
        LikestHeir x = new LikestHeir();
        CHECK.due("35: nine digits", read(x, "person like 333333333"), 1);
        CHECK.due("35: ten digits, by value", read(x, "person like 0000000012"), 1);
        for (int m = 0; m < 9; m++) {
            CHECK.due("35: WAYS of 0", x.way(0, m), 3);
            CHECK.due("35: WAYS of 1", x.way(1, m), m == 0 ? 2 : m == 1 ? 1 : 0);
        }
    }

    private static void bytesOfNoToken() {
        fault("#", 0);
        fault("person#", 6);
        fault("person #", 7);
        fault("person age -1", 11);
        fault("person\tage 1", 6);
        fault("person\n", 6);
        fault("person" + (char) 0, 6);
        fault("person" + (char) 233, 6);
        fault("person age 1A", 12);
        fault("per`son", 0);
        fault("person{", 6);
        fault("person age 1:", 12);
        fault("person age /", 11);
    }

    private static void thirteen() {
        LikestHeir x = new LikestHeir();
        for (int i = 0; i < 10; i++) {
            x.person(0, 1);
        }
        CHECK.due("35: the name of a 13th", read(x, "kin;twin; sworn age 1"), -11);
        CHECK.due("35: PEOPLE", x.count(0), 10);
        CHECK.due("35: up to 12", read(x, "kin;twin;law 1"), 3);
        CHECK.due("35: PEOPLE", x.count(0), 12);
        CHECK.due("35: a 13th", read(x, "person"), -1);
        CHECK.due("35: what isn't one", read(x, "law 2"), 1);
        CHECK.due("35: no finding", x.status(-1), 0);
    }

    private static void nothingChangesAtAFault() {
        LikestHeir x = new LikestHeir();
        x.person(0, 1);
        CHECK.due("35: a fault at the end", read(x, "law 2;mark 0 weighs 9 costs 9;person;#"), -38);
        CHECK.due("35: LAW", x.now(1), 0);
        CHECK.due("35: WEIGHS", x.count(2), 9);
        CHECK.due("35: COSTS", x.mark(0, 1, 2), 2);
        CHECK.due("35: PEOPLE", x.count(0), 1);
        CHECK.due("35: how many LIVE", x.now(2), 1);
        x.mark(0, 0, 5);
        x.person(0, 1);
        CHECK.due("35: like is as weighed", x.like(0, 1), 13);
    }
}
