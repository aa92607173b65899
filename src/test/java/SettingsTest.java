/** Promises 14 to 16: PRICES, THE LENGTH, PICTURES. */
public final class SettingsTest {
    private static final Checks C = new Checks("SettingsTest");

    public static void main(String[] args) {
        promise14();
        promise15();
        promise15Thirty();
        promise16();
        promise16Bars();
        C.end();
    }

    /** One man a SIDE, each of one MOVE at a time: 0 6 12 18 24 30 and 35 29 23 17 11 5; ten MOVES, then no more. */
    static MoveNotes walkers() {
        MoveNotes x = new MoveNotes();
        Checks.kind(x, "ahead 1", 1);
        x.put(0, 0, 0);
        x.put(35, 0, 1);
        return x;
    }

    private static void promise14() {
        MoveNotes x = walkers();
        for (int slip = 1; slip <= 7; slip++) {
            C.same("at first", x.price(slip, slip), 0);
        }
        for (int slip = 1; slip <= 7; slip++) {
            C.same("then", x.price(slip, 9), slip);
            C.same("the last", x.price(slip, 0), 9);
        }
        C.noPlace("slip 0", () -> x.price(0, 1));
        C.noPlace("slip 8", () -> x.price(8, 1));
        C.noPlace("slip -1", () -> x.price(-1, 1));
        C.wrong("price 10", () -> x.price(1, 10));
        C.wrong("price -1", () -> x.price(1, -1));
        C.noPlace("of two the one told first", () -> x.price(8, 10));
        C.same("nothing came of these", x.price(1, 0), 0);
        // From now on: a BOOK of no NOTES, two MOVES.
        x.book(0);
        x.length(2);
        C.same("LOST may not be", x.least(), -1);
        x.price(6, 3);
        C.same("LOST for 3", x.least(), 6);
        x.price(6, 9);
        C.same("LOST for 9", x.least(), 18);
        x.length(3);
        C.same("more than 20", x.least(), -1);
        x.price(6, 0);
        x.length(2);
        C.same("not any more", x.least(), -1);
    }

    private static void promise15() {
        MoveNotes x = walkers();
        C.same("none at first", x.count(5), -1);
        C.same("whatever it is", x.many(), 11);
        x.length(0);
        C.same("0", x.count(5), 0);
        C.same("START alone", x.many(), 1);
        C.same("no MOVE", x.read(-1), 0);
        C.same("one position", x.count(6), 1);
        x.length(10);
        C.same("all ten", x.many(), 1);
        C.same("ten MOVES", x.read(-1), 10);
        C.same("eleven positions", x.count(6), 11);
        x.length(11);
        C.same("eleven", x.least(), -1);
        C.same("by each PRICE", x.count(6), 21 * 11);
        C.wrong("-2", Checks.of(() -> x.length(-2)));
        C.wrong("31", Checks.of(() -> x.length(31)));
        C.same("as it was", x.count(5), 11);
        x.length(30);
        C.same("30", x.count(5), 30);
        C.same("no 30", x.many(), -1);
        x.length(-1);
        C.same("none", x.count(5), -1);
        C.same("whatever it is again", x.many(), 11);
    }

    /** Two men between others that have no LINES, of one MOVE each for ever. */
    private static void promise15Thirty() {
        MoveNotes x = new MoveNotes();
        Checks.kind(x, "straight 1", 1);
        Checks.kind(x, "", 1);
        x.put(0, 0, 0);
        for (int square : new int[] {2, 6, 7}) {
            x.put(square, 1, 0);
        }
        x.put(35, 0, 1);
        for (int square : new int[] {33, 29, 28}) {
            x.put(square, 1, 1);
        }
        C.same("at most 30 MOVES", x.many(), 31);
        C.same("31 positions", x.count(6), 31);
        x.length(30);
        C.same("one of 30", x.many(), 1);
        C.same("it has 30", x.read(-1), 30);
        C.same("the last", x.read(29), Checks.move(35, 34));
        C.same("none behind it", x.read(30), -3);
    }

    private static void promise16() {
        MoveNotes x = walkers();
        C.same("the first", x.picture(0, 0, 0, 0), 1);
        C.same("nothing", x.picture(30, 35, -1, 1), 2);
        C.noPlace("square -1", () -> x.picture(0, -1, 0, 0));
        C.noPlace("square 36", () -> x.picture(0, 36, 0, 0));
        C.noPlace("square 36 of nothing", () -> x.picture(0, 36, -1, 0));
        C.noPlace("kind 1", () -> x.picture(0, 0, 1, 0));
        C.noPlace("kind -2", () -> x.picture(0, 0, -2, 0));
        C.wrong("moves -1", () -> x.picture(-1, 0, 0, 0));
        C.wrong("moves 31", () -> x.picture(31, 0, 0, 0));
        C.wrong("side 2", () -> x.picture(0, 0, 0, 2));
        C.wrong("side -1", () -> x.picture(0, 0, 0, -1));
        C.noPlace("of two the one told first", () -> x.picture(31, 36, 0, 0));
        C.same("two", x.count(4), 2);
        for (int n = 3; n <= 10; n++) {
            C.same("the next", x.picture(0, n, -1, 0), n);
        }
        C.full("an eleventh", () -> x.picture(0, 0, 0, 0));
        C.wrong("a wrong eleventh", () -> x.picture(31, 0, 0, 0));
        C.noPlace("an eleventh nowhere", () -> x.picture(0, 36, 0, 0));
        C.same("ten", x.count(4), 10);
    }

    private static void promise16Bars() {
        // Behind two MOVES the first man is on 6: READINGS have two MOVES or more.
        MoveNotes x = walkers();
        x.picture(2, 6, 0, 0);
        C.same("2 to 10 MOVES", x.many(), 9);
        C.same("FIRST has two", x.read(-1), 2);
        C.same("nothing is barred", x.count(6), 11);
        x.picture(7, 6, -1, 0);
        C.same("7 to 10", x.many(), 4);
        C.same("FIRST has seven", x.read(-1), 7);
        // Behind four he is on 12, not on 6.
        MoveNotes y = walkers();
        y.picture(4, 6, 0, 0);
        C.same("barred", y.least(), -1);
        C.same("laid out, not gone on from", y.count(6), 21 * 5);
        // START can be barred.
        MoveNotes z = walkers();
        z.picture(0, 0, -1, 0);
        C.same("START barred", z.least(), -1);
        C.same("it is laid out", z.count(6), 21);
        // The KIND and the SIDE count.
        MoveNotes w = walkers();
        Checks.kind(w, "", 1);
        w.image();
        w.picture(1, 6, 1, 0);
        C.same("another KIND", w.least(), -1);
        w.back();
        w.picture(1, 6, 0, 1);
        C.same("another SIDE", w.least(), -1);
        w.back();
        w.picture(1, 6, 0, 0);
        w.picture(1, 0, -1, 0);
        w.picture(1, 35, 0, 1);
        C.same("as it is", w.many(), 10);
        w.picture(1, 34, 0, 1);
        C.same("all must be so", w.many(), -1);
        // The tenth as well as the first.
        MoveNotes u = walkers();
        for (int n = 1; n <= 9; n++) {
            u.picture(n, 0, -1, n % 2);
            C.same("READINGS with " + n, u.many(), 11 - n);
        }
        u.picture(10, 0, 0, 0);
        C.same("READINGS with the tenth", u.many(), -1);
        // With THE LENGTH: too short for a PICTURE.
        MoveNotes v = walkers();
        v.picture(3, 12, 0, 0);
        v.length(2);
        C.same("too short", v.least(), -1);
        C.same("no further than THE LENGTH", v.count(6), 21 * 3);
        v.length(3);
        C.same("long enough", v.least(), 0);
    }
}
