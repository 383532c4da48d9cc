/** Promises 11 to 16: like, same, heir, heirOf, watched, changes. */
public final class LikenessTest {
    private static final Check CHECK = new Check();

    public static void main(String[] args) {
        like();
        likeByLaw();
        same();
        heir();
        heirByAgeAndNumber();
        heirOf();
        watched();
        changesOfCopiers();
        changesOfShunners();
        changesOfOthers();
        CHECK.end();
    }

    private static LikestHeir people(int... kinds) {
        LikestHeir x = new LikestHeir();
        for (int kind : kinds) {
            x.person(kind, 30);
        }
        return x;
    }

    private static void like() {
        LikestHeir x = people(0, 4);
        for (int m = 0; m < 9; m++) {
            x.mark(m, 0, m + 1);
        }
        CHECK.due("11: like in all", x.like(0, 1), 45);
        for (int m = 0; m < 8; m++) {
            x.be(1, m, 1 + m % 3);
            CHECK.due("11: but for one MARK", x.like(0, 1), 45 - (m + 1));
            CHECK.due("11: from the other side", x.like(1, 0), 45 - (m + 1));
            x.be(1, m, 0);
        }
        x.be(1, 8, 2);
        CHECK.due("11: a SWORN one is the SAME in MARK 8", x.like(0, 1), 45);
        CHECK.due("11: not the other one", x.like(1, 0), 36);
        x.turn(0, 4);
        CHECK.due("11: both SWORN", x.like(1, 0), 45);
        x.set(1, 5, 0);
        CHECK.due("11: a DEAD one", x.like(0, 1), 45);
        CHECK.due("11: one and the same", x.like(0, 0), Check.BEYOND);
        CHECK.due("11: no such one", x.like(0, 2), Check.BEYOND);
        CHECK.due("11: no such one", x.like(2, 0), Check.BEYOND);
        CHECK.due("11: no such one", x.like(-1, 0), Check.BEYOND);
        CHECK.due("11: no such one", x.like(0, -1), Check.BEYOND);
    }

    private static void likeByLaw() {
        LikestHeir x = people(0, 0);
        x.set(0, 4, 1);
        CHECK.due("11: LAW 0", x.like(0, 1), 9);
        x.let(1);
        CHECK.due("11: LAW 1, the CHILD", x.like(0, 1), 14);
        CHECK.due("11: LAW 1, not the CHILD", x.like(1, 0), 9);
        x.let(2);
        CHECK.due("11: LAW 2", x.like(0, 1), 9);
    }

    private static void same() {
        LikestHeir x = people(4, 4);
        CHECK.due("12: all", x.same(0, 1), 9);
        x.mark(3, 0, 0);
        x.mark(4, 0, 9);
        x.let(1);
        x.set(0, 4, 1);
        CHECK.due("12: neither weights nor CHILD count", x.same(0, 1), 9);
        x.be(0, 8, 1);
        CHECK.due("12: nor an oath", x.same(0, 1), 8);
        x.be(1, 8, 3);
        CHECK.due("12: 1 and 3 aren't the same", x.same(1, 0), 8);
        x.be(0, 8, 3);
        CHECK.due("12: 3 and 3 are", x.same(1, 0), 9);
        for (int m = 0; m < 9; m++) {
            x.be(0, m, 2);
        }
        CHECK.due("12: none but MARK 8", x.same(1, 0), 0);
        CHECK.due("12: one and the same", x.same(1, 1), Check.BEYOND);
        CHECK.due("12: no such one", x.same(0, 2), Check.BEYOND);
        CHECK.due("12: no such one", x.same(-1, 0), Check.BEYOND);
    }

    private static void heir() {
        LikestHeir x = people(0);
        CHECK.due("13: no other one", x.heir(0), Check.NONE);
        CHECK.due("13: no such one", x.heir(1), Check.BEYOND);
        CHECK.due("13: no such one", x.heir(-1), Check.BEYOND);
        x.person(0, 20);
        x.person(0, 60);
        x.be(2, 0, 1);
        CHECK.due("13: the likest", x.heir(0), 1);
        x.be(0, 0, 1);
        CHECK.due("13: the likest", x.heir(0), 2);
        x.set(2, 5, 0);
        CHECK.due("13: of the LIVING", x.heir(0), 1);
        CHECK.due("13: of a DEAD one", x.heir(2), 0);
        x.set(1, 5, 0);
        CHECK.due("13: all others are DEAD", x.heir(0), Check.NONE);
    }

    private static void heirByAgeAndNumber() {
        LikestHeir x = people(0, 0, 0, 0);
        CHECK.due("13: the least number", x.heir(0), 1);
        CHECK.due("13: the least number", x.heir(1), 0);
        x.set(3, 1, 31);
        CHECK.due("13: the eldest", x.heir(0), 3);
        x.set(2, 1, 31);
        CHECK.due("13: of the eldest the least number", x.heir(0), 2);
        x.set(0, 4, 1);
        x.let(1);
        CHECK.due("13: by LAW 1 the CHILD", x.heir(0), 1);
        for (int m = 0; m < 5; m++) {
            x.be(1, m, 1);
        }
        CHECK.due("13: 5 more make up for 5", x.heir(0), 2);
        x.set(1, 1, 32);
        CHECK.due("13: and then the eldest is", x.heir(0), 1);
    }

    private static void heirOf() {
        LikestHeir x = people(0, 0, 0, 0);
        CHECK.due("14: heirOf(0)", x.heirOf(0), 14);
        CHECK.due("14: heirOf(1)", x.heirOf(1), 1);
        CHECK.due("14: heirOf(2)", x.heirOf(2), 0);
        x.set(2, 5, 0);
        CHECK.due("14: of LIVING ones", x.heirOf(0), 10);
        x.set(0, 5, 0);
        CHECK.due("14: a DEAD one is nobody's", x.heirOf(0), 0);
        CHECK.due("14: heirOf(1)", x.heirOf(1), 8);
        CHECK.due("14: no such one", x.heirOf(4), Check.BEYOND);
        CHECK.due("14: no such one", x.heirOf(-1), Check.BEYOND);
    }

    private static void watched() {
        LikestHeir x = people(0, 1, 2, 3, 4, 5);
        x.set(0, 2, 11);
        CHECK.due("15: by COPIERS, SWORN and the TWIN", x.watched(0), 50);
        x.set(3, 4, 0);
        CHECK.due("15: and the KIND ONE", x.watched(0), 58);
        x.set(1, 5, 0);
        CHECK.due("15: by LIVING ones", x.watched(0), 56);
        x.set(0, 5, 0);
        CHECK.due("15: nobody watches a DEAD one", x.watched(0), 0);
        CHECK.due("15: the next one", x.watched(2), 48);
        x.turn(2, 1);
        x.set(3, 2, 99);
        x.turn(0, 4);
        CHECK.due("15: not by DEAD ones", x.watched(3), 20);
        x.set(0, 5, 1);
        CHECK.due("15: by 0, too", x.watched(3), 21);
        CHECK.due("15: no such one", x.watched(6), Check.BEYOND);
        CHECK.due("15: no such one", x.watched(-1), Check.BEYOND);
    }

    private static void changesOfCopiers() {
        LikestHeir x = people(0, 1, 4);
        x.set(0, 2, 100);
        CHECK.due("16: like it in all", x.changes(1), Check.NONE);
        x.be(0, 8, 1);
        CHECK.due("16: MARK 8", x.changes(1), 8);
        CHECK.due("16: of a SWORN one not MARK 8", x.changes(2), Check.NONE);
        x.be(0, 4, 1);
        x.be(0, 6, 1);
        CHECK.due("16: the least MARK", x.changes(1), 4);
        CHECK.due("16: the least MARK", x.changes(2), 4);
        x.mark(4, 1, 10);
        CHECK.due("16: it has just enough", x.changes(1), 4);
        x.mark(4, 1, 11);
        CHECK.due("16: it has too little, and takes no other MARK", x.changes(1), Check.NONE);
        x.mark(4, 1, 0);
        x.set(1, 2, 0);
        CHECK.due("16: what costs nothing", x.changes(1), 4);
        x.set(1, 5, 0);
        CHECK.due("16: of a DEAD one", x.changes(1), Check.NONE);
        CHECK.due("16: no such one", x.changes(3), Check.BEYOND);
        CHECK.due("16: no such one", x.changes(-1), Check.BEYOND);
    }

    private static void changesOfShunners() {
        LikestHeir x = people(2);
        CHECK.due("16: no HEIR", x.changes(0), Check.NONE);
        x.person(4, 50);
        CHECK.due("16: MARK 0", x.changes(0), 0);
        for (int m = 0; m < 8; m++) {
            x.be(1, m, 3);
        }
        CHECK.due("16: MARK 8 alone", x.changes(0), 8);
        x.be(1, 8, 2);
        CHECK.due("16: by WAYS none is like, an oath is nothing", x.changes(0), Check.NONE);
        x.be(0, 5, 3);
        x.be(0, 6, 3);
        CHECK.due("16: the least MARK that is like", x.changes(0), 5);
        x.set(0, 2, 1);
        CHECK.due("16: it has too little", x.changes(0), Check.NONE);
    }

    private static void changesOfOthers() {
        LikestHeir x = people(0, 3, 5);
        x.be(0, 2, 1);
        x.be(2, 7, 1);
        CHECK.due("16: a PERSON", x.changes(0), Check.NONE);
        CHECK.due("16: a KIND ONE with no CHILD", x.changes(1), Check.NONE);
        x.set(1, 4, 0);
        CHECK.due("16: a KIND ONE", x.changes(1), 2);
        CHECK.due("16: a TWIN, by its HEIR", x.changes(2), 7);
        x.set(2, 4, 0);
        CHECK.due("16: a TWIN, by its CHILD", x.changes(2), 2);
        x.set(0, 5, 0);
        CHECK.due("16: a KIND ONE whose CHILD is DEAD", x.changes(1), Check.NONE);
        CHECK.due("16: a TWIN whose CHILD is DEAD", x.changes(2), 7);
    }
}
