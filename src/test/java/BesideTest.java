/** Promises 28 to 31: SHARED and COPIED, ALIKE, WAY, CHEAPER. */
public final class BesideTest {
    private static final Checks C = new Checks("BesideTest");

    public static void main(String[] args) {
        promise28();
        promise28Copied();
        promise28Wrong();
        promise29();
        promise30();
        promise30Bounds();
        promise30Spent();
        promise31();
        promise31Spent();
        C.end();
    }

    /** The walkers, with two KINDS, all SLIPS priced 1, so many BOOKS of their first four MOVES. */
    private static MoveNotes copies(int books) {
        MoveNotes x = SettingsTest.walkers();
        Checks.kind(x, "", 1);
        for (int slip = 1; slip <= 7; slip++) {
            x.price(slip, 1);
        }
        for (int b = 0; b < books; b++) {
            x.book(0);
            x.note(b, 0, -1, 0, 1);
            x.note(b, 0, -1, 5, 4);
            x.note(b, 0, -1, 0, 2);
            x.note(b, 0, -1, 5, 3);
        }
        return x;
    }

    private static void promise28() {
        MoveNotes x = copies(2);
        C.same("no SLIPS", x.shared(0, 1, false), 0);
        // KIND in both.
        x.change(0, 0, 1, -1, 0, 1);
        C.same("in one alone", x.shared(0, 1, false), 0);
        x.change(1, 0, 1, -1, 0, 1);
        C.same("the same KIND", x.shared(0, 1, false), 1);
        x.change(1, 0, 1, 0, 0, 1);
        C.same("but for FILE from", x.shared(0, 1, false), 1);
        // FILE: one more, one less.
        x.change(0, 1, 0, -1, 4, 4);
        x.change(1, 1, 0, -1, 4, 4);
        C.same("two", x.shared(0, 1, false), 2);
        C.same("the other way round", x.shared(1, 0, false), 2);
        x.change(0, 2, 0, -1, 1, 2);
        x.change(1, 2, 0, -1, 0, 3);
        C.same("FILE in one, RANK in the other", x.shared(0, 1, false), 2);
        x.change(0, 3, 0, -1, 5, 2);
        x.change(1, 3, 0, -1, 5, 4);
        C.same("RANK in both, not alike", x.shared(0, 1, false), 2);
        x.change(1, 3, 0, 5, 5, 2);
        C.same("alike", x.shared(0, 1, false), 3);
        // FILE from in both: that may be another one in each.
        x.change(0, 2, 0, 3, 0, 2);
        x.change(1, 2, 0, 4, 0, 2);
        C.same("FILES from", x.shared(0, 1, false), 4);
        x.change(1, 2, 0, 0, 0, 2);
        C.same("one of them right", x.shared(0, 1, false), 3);
        C.same("a BOOK with itself", x.shared(0, 0, false), 4);
        // One NOTE LOST in the second.
        MoveNotes y = SettingsTest.walkers();
        y.book(0);
        y.book(0);
        y.note(0, 0, -1, 1, 1);
        y.note(0, 0, -1, 5, 4);
        y.note(1, 0, -1, 5, 4);
        y.price(2, 1);
        y.price(6, 1);
        C.same("LEAST", y.least(), 2);
        C.same("a NOTE of another MOVE", y.shared(0, 1, false), 0);
        y.change(0, 1, 0, -1, 4, 4);
        y.change(1, 0, 0, -1, 4, 4);
        C.same("by the MOVE, not by the NOTE", y.shared(0, 1, false), 1);
        // Both LOST, both TWICE are not shared.
        y.length(3);
        C.same("LOST in both", y.shared(0, 1, false), 1);
        y.note(0, 0, -1, 4, 4);
        y.note(1, 0, -1, 4, 4);
        y.price(7, 1);
        C.same("TWICE in both", y.slips(0, 7) + y.slips(1, 7), 2);
        C.same("is not shared", y.shared(0, 1, false), 1);
    }

    private static void promise28Copied() {
        MoveNotes x = copies(2);
        C.same("nothing shared", x.shared(0, 1, true), 0);
        x.change(0, 0, 1, -1, 0, 1);
        x.change(1, 0, 1, -1, 0, 1);
        C.same("one shared, none else", x.shared(0, 1, true), 1);
        C.same("nor the other way round", x.shared(1, 0, true), 1);
        x.change(1, 1, 0, -1, 4, 4);
        C.same("the second has one that the first has right", x.shared(0, 1, true), 0);
        C.same("that does not speak for the second", x.shared(1, 0, true), 1);
        C.same("one is shared", x.shared(0, 1, false), 1);
        x.change(0, 1, 0, -1, 5, 3);
        C.same("the first has another SLIP there", x.shared(0, 1, true), 1);
        x.change(0, 1, 0, -1, 5, 4);
        x.change(0, 0, 0, -1, 0, 1);
        x.change(0, 1, 0, -1, 4, 4);
        C.same("it may be MOVE 0 that the first has right", x.shared(0, 1, true), 0);
        C.same("one is shared all the same", x.shared(0, 1, false), 1);
        // The first has none: LOST.
        MoveNotes y = SettingsTest.walkers();
        y.book(0);
        y.book(0);
        y.note(0, 0, -1, 1, 1);
        y.note(1, 0, -1, 1, 1);
        y.note(1, 0, -1, 4, 4);
        y.price(2, 1);
        y.price(6, 1);
        C.same("one is shared", y.shared(0, 1, false), 1);
        C.same("the second has one where the first has none", y.shared(0, 1, true), 0);
        C.same("the first has none that the second has not", y.shared(1, 0, true), 1);
        y.note(0, 0, -1, 4, 4);
        C.same("two", y.shared(0, 1, false), 2);
        C.same("all", y.shared(0, 1, true), 1);
        y.note(1, 0, -1, 1, 2);
        C.same("two against one", y.shared(0, 1, true), 1);
        y.note(1, 0, -1, 4, 3);
        C.same("two against two", y.shared(0, 1, true), 0);
        // What is right or LOST in the second counts for nothing.
        MoveNotes z = SettingsTest.walkers();
        z.book(0);
        z.book(0);
        z.note(0, 0, -1, 1, 1);
        z.note(0, 0, -1, 5, 4);
        z.note(0, 0, -1, 0, 2);
        z.note(1, 0, -1, 1, 1);
        z.note(1, 0, -1, 5, 4);
        z.price(2, 1);
        z.price(6, 1);
        C.same("copied", z.shared(0, 1, true), 1);
    }

    private static void promise28Wrong() {
        MoveNotes x = copies(2);
        C.noPlace("book 2", () -> x.shared(2, 0, false));
        C.noPlace("book 2 second", () -> x.shared(0, 2, true));
        C.noPlace("book -1", () -> x.shared(-1, 0, true));
        C.noPlace("book -1 second", () -> x.shared(0, -1, false));
        x.length(11);
        C.same("no READING", x.shared(0, 1, false), -1);
        C.same("no READING, copied", x.shared(0, 1, true), -1);
        C.noPlace("book 2 without a READING", () -> x.shared(0, 2, true));
    }

    private static void promise29() {
        MoveNotes x = copies(3);
        C.same("four", x.alike(0, 1), 4);
        C.same("with itself", x.alike(2, 2), 4);
        x.change(1, 1, 1, -1, 5, 4);
        C.same("but for a KIND", x.alike(0, 1), 3);
        x.change(1, 1, 0, 5, 5, 4);
        C.same("but for a FILE from", x.alike(0, 1), 3);
        x.change(1, 1, 0, -1, 4, 4);
        C.same("but for a FILE", x.alike(0, 1), 3);
        x.change(1, 1, 0, -1, 5, 5);
        C.same("but for a RANK", x.alike(0, 1), 3);
        x.change(1, 1, 0, -1, 0, 2);
        x.change(1, 2, 0, -1, 5, 4);
        C.same("in the same order", x.alike(0, 1), 3);
        C.same("the other way round", x.alike(1, 0), 3);
        // Others may lie between.
        MoveNotes y = new MoveNotes();
        Checks.kind(y, "", 0);
        y.book(0);
        y.book(1);
        y.book(0);
        int[] one = {0, 1, 2, 3, 4, 5, 0, 1};
        int[] two = {5, 0, 5, 2, 4, 1, 0};
        for (int n : one) {
            y.note(0, 0, -1, n, 0);
        }
        for (int n : two) {
            y.note(1, 0, -1, n, 0);
        }
        // 0 2 4 1, or 0 2 4 0.
        C.same("others between", y.alike(0, 1), 4);
        C.same("others between, the other way round", y.alike(1, 0), 4);
        C.same("with a BOOK of no NOTES", y.alike(0, 2), 0);
        C.same("a BOOK of no NOTES", y.alike(2, 1), 0);
        C.same("that with itself", y.alike(2, 2), 0);
        // A NOTE is not used twice.
        y.note(2, 0, -1, 0, 0);
        C.same("one of two", y.alike(0, 2), 1);
        C.same("two of one", y.alike(2, 0), 1);
        C.noPlace("book 3", () -> y.alike(3, 0));
        C.noPlace("book 3 second", () -> y.alike(0, 3));
        C.noPlace("book -1", () -> y.alike(-1, 0));
        C.noPlace("book -1 second", () -> y.alike(0, -1));
        // It does not ask for READINGS.
        y.length(30);
        C.same("no READING", y.least(), -1);
        C.same("ALIKE all the same", y.alike(0, 1), 4);
        // 24 NOTES.
        MoveNotes z = new MoveNotes();
        Checks.kind(z, "", 0);
        z.book(0);
        z.book(0);
        for (int n = 0; n < 24; n++) {
            z.note(0, 0, n % 7 - 1, n % 6, n % 5);
            z.note(1, 0, n % 7 - 1, n % 6, n % 5);
        }
        C.same("24", z.alike(0, 1), 24);
    }

    private static void promise30() {
        MoveNotes x = SettingsTest.walkers();
        C.noPlace("no BOOK", () -> x.way(0));
        x.book(0);
        C.same("no NOTES: alike", x.way(0), -3);
        x.note(0, 0, -1, 0, 1);
        C.same("of SIDE 0 alone: alike", x.way(0), -3);
        x.note(0, 0, -1, 5, 1);
        C.same("no READING by 0: by 1", x.way(0), 1);
        x.change(0, 1, 0, -1, 5, 4);
        C.same("no READING by 1: by 0", x.way(0), 0);
        x.change(0, 1, 0, -1, 3, 3);
        C.same("no READING by either", x.way(0), -3);
        x.price(4, 2);
        x.change(0, 1, 0, -1, 5, 4);
        C.same("0 against 2", x.way(0), 0);
        x.change(0, 1, 0, -1, 5, 1);
        C.same("2 against 0", x.way(0), 1);
        x.price(3, 2);
        x.change(0, 1, 0, -1, 5, 2);
        C.same("off by one as counted, or nothing", x.way(0), 1);
        // Alone: the other BOOK is not asked; and the BOOK's own WAY stays.
        x.change(0, 1, 0, -1, 5, 1);
        x.book(1);
        x.note(1, 0, -1, 3, 3);
        C.same("no READING by both BOOKS", x.least(), -1);
        C.same("alone", x.way(0), 1);
        C.same("nor is the other", x.way(1), -3);
        x.change(1, 0, 0, -1, 0, 1);
        x.note(1, 0, -1, 5, 1);
        C.same("the WAYS are as they were: SIDE for the first", x.least(), 2);
        C.noPlace("book 2", () -> x.way(2));
        C.noPlace("book -1", () -> x.way(-1));
        // The other BOOK's LOST are not paid.
        MoveNotes y = SettingsTest.walkers();
        y.book(0);
        y.book(0);
        y.note(1, 0, -1, 0, 1);
        y.note(1, 0, -1, 5, 1);
        y.price(6, 9);
        y.price(4, 9);
        C.same("18 and 9 are too much", y.least(), -1);
        C.same("alone it is 9 against 0", y.way(1), 1);
    }

    private static void promise30Bounds() {
        // With LENGTH and PICTURES.
        MoveNotes x = SettingsTest.walkers();
        x.book(0);
        x.note(0, 0, -1, 0, 1);
        x.note(0, 0, -1, 5, 1);
        x.image();
        C.same("by 1", x.way(0), 1);
        x.length(3);
        C.same("not of three MOVES", x.way(0), -3);
        x.back();
        x.length(2);
        C.same("of two", x.way(0), 1);
        x.back();
        x.picture(2, 29, 0, 1);
        C.same("as the PICTURE says", x.way(0), 1);
        x.picture(2, 6, -1, 0);
        C.same("not as this one says", x.way(0), -3);
    }

    /** A queen and another of SIDE 0, a queen and a walker of SIDE 1. */
    private static MoveNotes queens() {
        MoveNotes x = new MoveNotes();
        Checks.kind(x, "straight 5; slant 5", 1);
        Checks.kind(x, "ahead 1", 1);
        x.put(0, 0, 0);
        x.put(14, 0, 0);
        x.put(35, 0, 1);
        x.put(33, 1, 1);
        x.price(6, 1);
        return x;
    }

    private static void promise30Spent() {
        // By WAY 1 the walker is where the second NOTE says at once, by WAY 0 he needs four MOVES, so six are LOST.
        for (int way = 0; way < 2; way++) {
            MoveNotes x = queens();
            x.book(way);
            x.note(0, 0, -1, 0, 5);
            x.note(0, 1, -1, 3, 1);
            C.same("LEAST by WAY " + way, x.least(), way == 0 ? -2 : 0);
            C.same("SPENT, if one is", x.way(0), -2);
            x.length(2);
            C.same("not with so few MOVES", x.way(0), 1);
        }
        // And the other way round: by WAY 0 at once.
        MoveNotes y = queens();
        y.book(1);
        y.note(0, 0, -1, 0, 5);
        y.note(0, 1, -1, 3, 4);
        C.same("SPENT by WAY 1", y.least(), -2);
        C.same("SPENT as well", y.way(0), -2);
        y.length(2);
        C.same("then by WAY 0", y.way(0), 0);
    }

    private static void promise31() {
        MoveNotes x = SettingsTest.walkers();
        x.book(0);
        x.note(0, 0, -1, 0, 2);
        x.note(0, 0, -1, 4, 3);
        x.price(6, 4);
        x.price(2, 3);
        // Two LOST, one FILE.
        C.same("LEAST", x.least(), 11);
        C.same("LOST", x.cheaper(6), 6);
        C.same("FILE", x.cheaper(2), 2);
        C.same("RANK is 0", x.cheaper(3), 0);
        C.same("nothing has changed", x.least(), 11);
        C.same("its PRICE", x.price(6, 1), 4);
        C.same("1 now", x.cheaper(6), 0);
        C.same("LEAST", x.least(), 5);
        x.price(3, 9);
        // By RANK the first is of MOVE 0, and the second FITS no other than m3 or, by the FILE, none: RANK 3.
        C.same("RANK for 1: one LOST less, but", x.cheaper(3), 0);
        x.price(2, 9);
        C.same("FILE for 9", x.least(), 11);
        C.same("FILE would be 8 less", x.cheaper(2), 8);
        x.price(2, 0);
        C.same("no READING", x.cheaper(6), -1);
        C.same("no READING, PRICE 0", x.cheaper(2), -1);
        C.noPlace("slip 0", () -> x.cheaper(0));
        C.noPlace("slip 8", () -> x.cheaper(8));
        C.noPlace("slip -1", () -> x.cheaper(-1));
        x.price(2, 2);
        x.price(3, 0);
        C.same("FILE for 2", x.cheaper(2), 1);
        // Also behind a question about one BOOK alone.
        x.book(0);
        x.note(1, 0, -1, 0, 2);
        C.same("by neither WAY less", x.way(1), -3);
        C.same("FILE of the first BOOK for 2", x.cheaper(2), 1);
        // Another READING may be least then.
        MoveNotes y = new MoveNotes();
        Checks.kind(y, "straight 1", 1);
        y.put(14, 0, 0);
        y.book(0);
        y.book(0);
        y.note(0, 0, -1, 2, 2);
        y.note(1, 0, -1, 2, 2);
        y.price(2, 6);
        y.price(3, 4);
        C.same("both by the RANK", y.least(), 8);
        C.same("both by the FILE", y.cheaper(2), 6);
        C.same("both by the RANK for 1", y.cheaper(3), 6);
        y.price(4, 5);
        C.same("RANK 2 and 3 by the SIDE", y.cheaper(4), 6);
        C.same("TWICE", y.cheaper(7), 0);
    }

    private static void promise31Spent() {
        MoveNotes x = new MoveNotes();
        Checks.kind(x, "straight 5; slant 5", 1);
        x.put(0, 0, 0);
        x.put(14, 0, 0);
        x.put(35, 0, 1);
        x.put(21, 0, 1);
        x.book(0);
        x.price(6, 9);
        x.price(1, 9);
        x.length(2);
        C.same("18", x.least(), 18);
        C.same("LOST for 1", x.cheaper(6), 16);
        x.length(3);
        C.same("27 is too much", x.least(), -1);
        C.same("no READING", x.cheaper(6), -1);
        // LOST for 6: three are 18, but many positions.
        x.price(6, 6);
        C.same("SPENT", x.least(), -2);
        C.same("SPENT too", x.cheaper(1), -2);
        C.same("also where it is 0", x.cheaper(2), -2);
        // SPENT just when it is 1: no MOVE is of the KIND of the NOTE, so that many LOST are looked at for nothing.
        MoveNotes y = queens();
        Checks.kind(y, "", 1);
        y.book(0);
        y.note(0, 2, -1, 0, 1);
        y.price(1, 8);
        y.price(6, 9);
        C.same("LEAST", y.least(), 8);
        C.same("eight PRICES with START alone, and one more", y.count(6), 8 + 2);
        C.same("KIND for 1", y.cheaper(1), 7);
        C.same("LOST for 1", y.cheaper(6), -2);
        C.same("LEAST is as it was", y.least(), 8);
    }
}
