/** Promises 7 and 8: START, and MOVES from it. */
public final class BoardTest {
    private static final Checks C = new Checks("BoardTest");

    public static void main(String[] args) {
        promise7();
        promise8Lines();
        promise8Sides();
        promise8Order();
        promise8Wrong();
        C.end();
    }

    private static void promise7() {
        MoveNotes x = new MoveNotes();
        C.noPlace("no KIND yet", Checks.of(() -> x.put(0, 0, 0)));
        x.put(0, -1, 0);
        C.same("nothing on nothing", x.count(1), 0);
        Checks.kind(x, "leap", 4);
        Checks.kind(x, "straight 1", 20);
        C.noPlace("square -1", Checks.of(() -> x.put(-1, 0, 0)));
        C.noPlace("square 36", Checks.of(() -> x.put(36, 0, 0)));
        C.noPlace("square 36 for nothing", Checks.of(() -> x.put(36, -1, 0)));
        C.noPlace("kind 2", Checks.of(() -> x.put(0, 2, 0)));
        C.noPlace("kind -2", Checks.of(() -> x.put(0, -2, 0)));
        C.wrong("side 2", Checks.of(() -> x.put(0, 0, 2)));
        C.wrong("side -1", Checks.of(() -> x.put(0, 0, -1)));
        C.noPlace("of two the one told first", Checks.of(() -> x.put(0, 2, 2)));
        C.noPlace("and the square's", Checks.of(() -> x.put(36, 0, 2)));
        C.same("nothing came of these", x.count(1), 0);
        x.put(0, 0, 0);
        x.put(35, 1, 1);
        C.same("two men", x.count(1), 2);
        C.same("their VALUE", x.count(7), 24);
        x.put(0, 1, 1);
        C.same("another in his place", x.count(1), 2);
        C.same("of another VALUE", x.count(7), 40);
        C.same("of the other SIDE", x.moves(0, -1), 0);
        C.same("who goes", x.moves(1, -1), 4);
        x.put(0, -1, 77);
        C.same("nothing: a side does not matter", x.count(1), 1);
        x.put(35, -1, -5);
        C.same("nothing at all", x.count(1), 0);
        // What READINGS there are follows.
        C.same("no MOVE", x.many(), 1);
        x.put(0, 1, 0);
        x.length(1);
        C.same("two MOVES", x.many(), 2);
    }

    private static MoveNotes with(String text) {
        MoveNotes x = new MoveNotes();
        Checks.kind(x, text, 1);
        Checks.kind(x, "", 2);
        return x;
    }

    /** All MOVES of SIDE 0 from SQUARES to which they go, as a text. */
    private static String targets(MoveNotes x, int side) {
        StringBuilder s = new StringBuilder();
        for (int i = 0; i < x.moves(side, -1); i++) {
            s.append(i == 0 ? "" : " ").append(x.moves(side, i) % 36);
        }
        return s.toString();
    }

    private static void goes(String text, int from, int side, String due) {
        MoveNotes x = with(text);
        x.put(from, 0, side);
        C.text(text + " from " + from + " of side " + side, targets(x, side), due);
        C.same("and the other side", x.moves(1 - side, -1), 0);
    }

    private static void promise8Lines() {
        goes("straight 1", 14, 0, "8 13 15 20");
        goes("straight 2", 14, 0, "2 8 12 13 15 16 20 26");
        goes("straight 5", 14, 0, "2 8 12 13 15 16 17 20 26 32");
        goes("straight 3", 0, 1, "1 2 3 6 12 18");
        goes("slant 1", 14, 0, "7 9 19 21");
        goes("slant 2", 14, 1, "0 4 7 9 19 21 24 28");
        goes("slant 5", 0, 0, "7 14 21 28 35");
        goes("slant 4", 0, 0, "7 14 21 28");
        goes("ahead 1", 14, 0, "20");
        goes("ahead 1", 14, 1, "8");
        goes("ahead 5", 2, 0, "8 14 20 26 32");
        goes("ahead 5", 14, 1, "2 8");
        goes("ahead 2", 32, 0, "");
        goes("ahead 2", 3, 1, "");
        goes("leap", 14, 0, "1 3 6 10 18 22 25 27");
        goes("leap", 0, 1, "8 13");
        goes("leap", 35, 0, "22 27");
        goes("leap", 5, 0, "9 16");
        goes("bite", 14, 0, "");
        goes("", 14, 0, "");
        goes("straight 1;slant 1;straight 2", 0, 0, "1 2 6 7 12");
    }

    private static void promise8Sides() {
        // Own men stop, others are TAKEN and stop; whatever the other's LINES are.
        MoveNotes x = with("straight 5");
        x.put(14, 0, 0);
        x.put(16, 1, 0);
        x.put(13, 1, 1);
        x.put(26, 1, 1);
        C.text("straight 5 among men", targets(x, 0), "2 8 13 15 20 26");
        MoveNotes y = with("slant 5");
        y.put(14, 0, 1);
        y.put(28, 1, 0);
        y.put(7, 1, 1);
        C.text("slant 5 among men", targets(y, 1), "4 9 19 21 24 28");
        // Ahead takes nobody.
        MoveNotes z = with("ahead 3");
        z.put(2, 0, 0);
        z.put(14, 1, 1);
        C.text("ahead 3 with another two ahead", targets(z, 0), "8");
        z.put(8, 1, 1);
        C.text("ahead 3 with another ahead", targets(z, 0), "");
        z.put(8, 1, 0);
        C.text("ahead 3 with an own man ahead", targets(z, 0), "");
        // A leap goes over all.
        MoveNotes l = with("leap");
        l.put(0, 0, 0);
        l.put(1, 1, 0);
        l.put(6, 1, 1);
        l.put(7, 1, 1);
        l.put(8, 1, 1);
        l.put(13, 1, 0);
        C.text("leap among men", targets(l, 0), "8");
        // A bite just takes, slant ahead.
        MoveNotes b = with("bite");
        b.put(14, 0, 0);
        for (int square : new int[] {7, 8, 9, 13, 15, 19, 20, 21}) {
            b.put(square, 1, 1);
        }
        C.text("bite of side 0", targets(b, 0), "19 21");
        b.put(21, 1, 0);
        C.text("bite: no own man", targets(b, 0), "19");
        MoveNotes c = with("bite");
        c.put(14, 0, 1);
        for (int square : new int[] {7, 8, 9, 13, 15, 19, 20, 21}) {
            c.put(square, 1, 0);
        }
        C.text("bite of side 1", targets(c, 1), "7 9");
        c.put(12, 0, 1);
        c.put(14, -1, 0);
        C.text("bite at THE BOARD's side", targets(c, 1), "7");
        c.put(17, 0, 1);
        c.put(12, -1, 0);
        c.put(11, 1, 0);
        c.put(10, 1, 0);
        C.text("bite at the other side", targets(c, 1), "10");
    }

    private static void promise8Order() {
        MoveNotes x = with("straight 1; slant 1; leap; straight 1");
        x.put(7, 0, 0);
        x.put(0, 1, 0);
        x.put(35, 0, 0);
        x.put(2, 0, 1);
        int[] from7 = {1, 2, 3, 6, 8, 12, 13, 14, 15, 18, 20};
        int[] from35 = {22, 27, 28, 29, 34};
        C.same("how many", x.moves(0, -1), from7.length + from35.length);
        for (int i = 0; i < from7.length; i++) {
            C.same("MOVE " + i, x.moves(0, i), Checks.move(7, from7[i]));
        }
        for (int i = 0; i < from35.length; i++) {
            C.same("MOVE " + (11 + i), x.moves(0, 11 + i), Checks.move(35, from35[i]));
        }
        C.same("behind the last", x.moves(0, 16), -1);
        C.same("far behind", x.moves(0, Integer.MAX_VALUE), -1);
        C.same("side 1: its own", x.moves(1, 0), Checks.move(2, 1));
        C.same("side 1 takes", x.moves(1, -1), 9);
    }

    private static void promise8Wrong() {
        MoveNotes x = with("leap");
        C.wrong("side 2", () -> x.moves(2, 0));
        C.wrong("side -1", () -> x.moves(-1, 0));
        C.wrong("i -2", () -> x.moves(0, -2));
        C.same("no men", x.moves(0, -1), 0);
        C.same("no MOVE", x.moves(1, 0), -1);
    }
}
