/** Promises 42 to 46: image, undo, tear, count, status. */
public final class ImagesTest {
    private static final Check CHECK = new Check();

    public static void main(String[] args) {
        imageAndUndo();
        notInTheImage();
        tear();
        count();
        status();
        CHECK.end();
    }

    private static void imageAndUndo() {
        LikestHeir x = new LikestHeir();
        CHECK.due("43: nothing is kept", x.undo(), Check.NONE);
        x.person(3, 30);
        x.person(1, 40);
        x.set(0, 4, 1);
        x.set(0, 3, 99);
        x.be(0, 5, 3);
        x.mark(2, 0, 7);
        x.mark(2, 1, 70);
        x.let(1);
        x.years(3);
        CHECK.due("42: image()", x.image(), 1);
        x.years(60);
        x.person(0, 1);
        x.set(0, 4, -1);
        x.set(0, 3, 9);
        x.set(0, 5, 0);
        x.turn(0, 5);
        x.be(0, 5, 1);
        x.mark(2, 0, 3);
        x.mark(2, 1, 3);
        x.let(2);
        for (int again = 0; again < 2; again++) {
            CHECK.due("43: how many PEOPLE", x.undo(), 2);
            int[] are = {3, 33, 8, 99, 1, 1};
            for (int what = 0; what < 6; what++) {
                CHECK.due("43: of(0, " + what + ")", x.of(0, what), are[what]);
            }
            CHECK.due("43: PEOPLE", x.count(0), 2);
            CHECK.due("43: YEAR", x.now(0), 3);
            CHECK.due("43: LAW", x.now(1), 1);
            CHECK.due("43: how many LIVE", x.now(2), 2);
            CHECK.due("43: LIKE goes by weights kept", x.like(0, 1), 20);
            CHECK.due("43: a WAY", x.way(0, 5), 0);
            CHECK.due("43: WEIGHS", x.mark(2, 0, 1), 7);
            CHECK.due("43: COSTS", x.mark(2, 1, 1), 70);
        }
        x.person(2, 2);
        CHECK.due("42: a later image", x.image(), 1);
        x.person(2, 2);
        CHECK.due("43: what was kept latest", x.undo(), 3);
        x.years(1);
        CHECK.due("43: which stays", x.undo(), 3);
        CHECK.due("43: YEAR", x.now(0), 3);
    }

    private static void notInTheImage() {
        LikestHeir x = new LikestHeir();
        x.feed('a', 1);
        x.sheet(0, 8, 1);
        x.write(0, 0, 5);
        x.image();
        x.feed('b', 1);
        x.write(0, 0, 6);
        x.let(7);
        CHECK.due("43: nobody", x.undo(), 0);
        CHECK.due("43: THE TAPE isn't kept", x.count(1), 2);
        CHECK.due("43: sheets aren't", x.write(0, 0, 7), 6);
        CHECK.due("43: nor is status", x.status(-1), 1);
    }

    private static void tear() {
        LikestHeir x = new LikestHeir();
        CHECK.due("44: nothing was kept", x.tear(), 0);
        x.image();
        x.image();
        CHECK.due("44: something was", x.tear(), 1);
        CHECK.due("44: nothing is", x.tear(), 0);
        CHECK.due("44: undo()", x.undo(), Check.NONE);
        x.image();
        CHECK.due("44: again", x.undo(), 0);
    }

    private static void count() {
        LikestHeir x = new LikestHeir();
        x.person(0, 30);
        x.person(0, 20);
        x.person(0, 7);
        x.set(1, 5, 0);
        x.feed(0, 3);
        x.mark(4, 0, 9);
        x.mark(5, 0, 4);
        x.mark(6, 0, 0);
        CHECK.due("45: PEOPLE", x.count(0), 3);
        CHECK.due("45: bytes", x.count(1), 3);
        CHECK.due("45: what all MARKS WEIGH", x.count(2), 19);
        CHECK.due("45: AGES of the LIVING", x.count(3), 37);
        CHECK.due("45: count(4)", x.count(4), Check.BEYOND);
        CHECK.due("45: count(-1)", x.count(-1), Check.BEYOND);
    }

    private static void status() {
        LikestHeir x = new LikestHeir();
        x.let(3);
        x.let(4);
        for (int i = 0; i < 13; i++) {
            x.person(0, 1);
        }
        x.as(0, 1);
        x.as(0, 2);
        x.as(0, 3);
        x.undo();
        x.set(0, 5, 0);
        x.dies(0);
        x.dies(0);
        x.read(0);
        x.sheet(0, 8, -1);
        x.sheet(0, 8, -1);
        x.sheet(0, 8, -1);
        x.sheet(0, 8, -1);
        int[] due = {2, 1, 3, 1, 2, 1, 4};
        for (int which = 0; which < 7; which++) {
            CHECK.due("46: status(" + which + ")", x.status(which), due[which]);
        }
        CHECK.due("46: all", x.status(-1), 14);
        CHECK.due("46: status(7)", x.status(7), Check.BEYOND);
        CHECK.due("46: counted from then on", x.status(0), 3);
        CHECK.due("46: status(-2)", x.status(-2), Check.BEYOND);
        CHECK.due("46: counted from then on", x.status(-1), 16);
        x.image();
        x.let(9);
        x.undo();
        CHECK.due("46: undo() takes none back", x.status(0), 5);
    }
}
