/** Promises 32 to 34: THE IMAGE, going back to it, and the counts. */
public final class StateTest {
    private static final Checks C = new Checks("StateTest");

    public static void main(String[] args) {
        promise32();
        promise33();
        promise33Everything();
        promise34();
        promise34Positions();
        throwsChangeNothing();
        changesAreSeen();
        C.end();
    }

    private static void promise32() {
        MoveNotes x = SettingsTest.walkers();
        x.image();
        x.put(1, 0, 0);
        x.image();
        x.put(2, 0, 0);
        C.same("three and one", x.count(1), 4);
        C.isTrue("back", x.back());
        C.same("THE IMAGE is the one kept last", x.count(1), 3);
        // It is kept as it was, whatever comes of the object later.
        MoveNotes y = SettingsTest.walkers();
        y.book(0);
        y.note(0, 0, -1, 0, 1);
        y.image();
        y.change(0, 0, 0, 3, 4, 5);
        y.price(1, 5);
        y.back();
        C.same("FILE to", y.look(0, 0, 2), 0);
        C.same("FILE from", y.look(0, 0, 1), -1);
        C.same("PRICE", y.price(1, 0), 0);
        y.change(0, 0, 0, 2, 2, 2);
        y.back();
        C.same("a second time", y.look(0, 0, 2), 0);
    }

    private static void promise33() {
        MoveNotes x = SettingsTest.walkers();
        C.isFalse("none was kept", x.back());
        C.same("nothing happens", x.count(1), 2);
        x.image();
        C.isTrue("one was", x.back());
        C.isTrue("it stays", x.back());
        // The TAPE and fault() are not of it.
        Checks.feed(x, "leap 7");
        x.image();
        C.wrong("leap 7", () -> x.kind(0));
        Checks.feed(x, "bite");
        C.isTrue("back", x.back());
        C.same("fault() stays", x.fault(), 5);
        C.same("the TAPE stays", x.kind(0), 1);
        Checks.feed(x, "leap");
        x.back();
        C.same("the TAPE is not that of then", x.feed(0, 0, 0, 0, 0), 24);
        // THE IMAGE is not of itself: of two kept one behind the other the later is there also behind back().
        MoveNotes y = SettingsTest.walkers();
        y.image();
        y.length(3);
        y.image();
        y.back();
        y.length(7);
        y.back();
        C.same("the later", y.count(5), 3);
    }

    private static void promise33Everything() {
        MoveNotes x = SettingsTest.walkers();
        Checks.measure(x, "add 1");
        x.book(0);
        x.note(0, 0, -1, 0, 1);
        x.price(2, 3);
        x.length(1);
        x.picture(1, 6, 0, 0);
        C.same("LEAST", x.least(), 0);
        C.same("PLAYED", x.best(-1), 1);
        x.image();
        // All of it otherwise.
        Checks.kind(x, "leap", 20);
        Checks.measure(x, "add 5; add 6");
        C.same("PLAYED otherwise", x.best(-1), 11);
        x.put(0, 1, 0);
        x.put(7, 1, 1);
        x.book(1);
        x.note(1, 1, 2, 3, 4);
        x.note(0, 1, 2, 3, 4);
        x.change(0, 0, 1, 5, 5, 5);
        for (int slip = 1; slip <= 7; slip++) {
            x.price(slip, 9);
        }
        x.length(5);
        x.picture(0, 0, -1, 0);
        C.same("LEAST otherwise", x.least(), -1);
        C.isTrue("back", x.back());
        int[] due = {1, 2, 1, 1, 1, 1, 2, 2};
        for (int what = 0; what < due.length; what++) {
            C.same("count(" + what + ")", x.count(what), due[what]);
        }
        C.same("LEAST", x.least(), 0);
        C.same("PLAYED", x.best(-1), 1);
        C.same("its MOVE", x.read(0), Checks.move(0, 6));
        C.same("FILE to", x.look(0, 0, 2), 0);
        C.same("KIND", x.look(0, 0, 0), 0);
        C.same("PRICE of 2", x.price(2, 3), 3);
        C.same("PRICE of 1", x.price(1, 0), 0);
        C.same("MOVES from START", x.moves(0, -1), 1);
        C.noPlace("no second KIND", Checks.of(() -> x.put(0, 1, 0)));
        C.noPlace("no second BOOK", () -> x.note(1, 0, 0, 0, 0));
        // Forward again by other KINDS and BOOKS: nothing is left of those.
        C.same("another second KIND", Checks.kind(x, "", 3), 1);
        x.put(1, 1, 0);
        C.same("it has no LINE", x.moves(0, -1), 1);
        C.same("another second BOOK", x.book(0), 1);
        C.same("of no NOTES", x.count(3), 1);
        C.same("another second PICTURE", x.picture(1, 0, -1, 1), 2);
        C.same("LOST is 0", x.least(), -1);
        x.price(6, 1);
        C.same("LOST is 1", x.least(), 1);
        // MEASURE can be none then.
        MoveNotes y = SettingsTest.walkers();
        y.length(1);
        y.image();
        Checks.measure(y, "add 4");
        C.same("PLAYED", y.best(-1), 4);
        y.back();
        C.same("without a MEASURE", y.best(-1), 0);
        Checks.measure(y, "add 5; add 6");
        y.image();
        Checks.measure(y, "add 1");
        C.same("a shorter MEASURE", y.best(-1), 1);
        y.back();
        C.same("the longer one", y.best(-1), 11);
        // The WAY of a BOOK.
        MoveNotes z = SettingsTest.walkers();
        z.image();
        z.book(1);
        z.back();
        z.book(0);
        z.note(0, 0, -1, 0, 1);
        z.note(0, 0, -1, 5, 4);
        C.same("by its own WAY", z.least(), 0);
        z.image();
        z.back();
        C.same("and back", z.least(), 0);
    }

    private static void promise34() {
        MoveNotes x = new MoveNotes();
        C.same("KINDS", x.count(0), 0);
        Checks.kind(x, "straight 1", 7);
        Checks.kind(x, "", 20);
        C.same("KINDS", x.count(0), 2);
        x.put(3, 0, 0);
        x.put(5, 1, 1);
        x.put(6, 1, 0);
        C.same("men", x.count(1), 3);
        C.same("their VALUE", x.count(7), 47);
        x.book(0);
        x.book(1);
        x.note(0, 0, 0, 0, 0);
        x.note(1, 0, 0, 0, 0);
        x.note(1, 1, 0, 0, 0);
        C.same("BOOKS", x.count(2), 2);
        C.same("NOTES", x.count(3), 3);
        x.picture(3, 0, -1, 0);
        C.same("PICTURES", x.count(4), 1);
        C.same("no LENGTH", x.count(5), -1);
        x.length(17);
        C.same("THE LENGTH", x.count(5), 17);
        for (int what : new int[] {-1, -2, 8, 9, Integer.MIN_VALUE, Integer.MAX_VALUE}) {
            C.same("count(" + what + ")", x.count(what), -1);
        }
        // Men at START, whatever READINGS do.
        x.count(6);
        x.best(-1);
        C.same("men at START", x.count(1), 3);
        x.put(5, -1, 0);
        C.same("two men", x.count(1), 2);
        C.same("VALUE of two", x.count(7), 27);
        // Men of both SIDES on all SQUARES.
        for (int square = 0; square < 36; square++) {
            x.put(square, 1, square % 2);
        }
        C.same("36 men", x.count(1), 36);
        C.same("720", x.count(7), 720);
    }

    private static void promise34Positions() {
        MoveNotes x = SettingsTest.walkers();
        C.same("eleven", x.count(6), 11);
        x.book(0);
        C.same("no NOTES: START alone", x.count(6), 1);
        x.note(0, 0, -1, 0, 2);
        C.same("no READING: START by each PRICE", x.count(6), 21);
        x.price(6, 3);
        // 0 to 2: START. 3 to 5: one MOVE more; 6: three and no more.
        C.same("two LOST", x.count(6), 3 + 3 * 2 + 4);
        C.same("LEAST", x.least(), 6);
        // A beginning may have a NOTE too few: with FILE off it goes on at once.
        x.price(3, 2);
        // 0, 1: START. 2: RANK off for MOVE 0, which is LEAST.
        C.same("RANK off", x.count(6), 1 + 1 + 2);
        x.picture(1, 0, 0, 0);
        C.same("barred: laid out, not gone on from", x.count(6), 1 + 1 + 19 * 2);
        C.same("no READING", x.least(), -1);
        MoveNotes y = new MoveNotes();
        Checks.kind(y, "straight 5; slant 5", 1);
        y.put(0, 0, 0);
        y.put(35, 0, 1);
        C.same("SPENT", y.count(6), -2);
        y.length(1);
        C.same("START and fifteen", y.count(6), 16);
    }

    /** A call that throws changes nothing but the TAPE, where it is used up. */
    private static void throwsChangeNothing() {
        MoveNotes x = SettingsTest.walkers();
        x.book(0);
        x.note(0, 0, -1, 0, 1);
        Checks.measure(x, "add 2");
        Checks.feed(x, "bite");
        Checks.Call[] calls = {() -> x.book(2), () -> x.note(0, 0, -1, 0, 6), () -> x.note(1, 0, -1, 0, 0),
            () -> x.change(0, 0, 0, -1, 6, 0) ? 1 : 0, () -> x.look(0, 0, 4), () -> x.write(0, 25, 0, 0),
            () -> x.price(2, 10), Checks.of(() -> x.length(31)), () -> x.picture(31, 0, 0, 0),
            Checks.of(() -> x.put(0, 0, 2)), Checks.of(() -> x.put(36, -1, 2)), () -> x.moves(0, -2), () -> x.read(-2),
            () -> x.readNext(-2), () -> x.slip(0, 1), () -> x.slips(0, 8), () -> x.breaks(1), () -> x.brief(-1),
            () -> x.best(-2), () -> x.odds(0, 3, true), () -> x.shared(0, 1, true), () -> x.alike(1, 0), () -> x.way(1),
            () -> x.cheaper(8)};
        for (int n = 0; n < calls.length; n++) {
            C.isTrue("call " + n + " throws", Checks.outcome(calls[n]).endsWith("Exception"));
        }
        int[] due = {1, 2, 1, 1, 0, -1, 2, 2};
        for (int what = 0; what < due.length; what++) {
            C.same("count(" + what + ")", x.count(what), due[what]);
        }
        C.same("PLAYED", x.best(-1), 2);
        C.isFalse("no IMAGE", x.back());
        C.same("the TAPE is still there", x.kind(1), 1);
    }

    /** Each call that tells something is seen by a question that was asked ahead of it as well. */
    private static void changesAreSeen() {
        MoveNotes x = SettingsTest.walkers();
        C.same("without BOOKS", x.many(), 11);
        x.image();
        x.book(0);
        C.same("book", x.many(), 1);
        x.back();
        C.same("back", x.many(), 11);
        x.write(0, 3, 0, 1);
        C.same("write", x.read(-1), 3);
        C.same("its last SLIP", x.slip(0, 2), 0);
        x.note(0, 0, -1, 5, 3);
        C.same("note", x.read(-1), 4);
        x.change(0, 3, 0, -1, 5, 2);
        C.same("change", x.least(), -1);
        x.price(3, 4);
        C.same("price", x.least(), 4);
        C.same("price: its SLIP", x.slip(0, 3), 3);
        x.price(3, 5);
        C.same("price again", x.least(), 5);
        x.put(35, -1, 0);
        C.same("put", x.least(), -1);
        x.put(35, 0, 1);
        C.same("put again", x.least(), 5);
        x.length(5);
        C.same("length", x.least(), -1);
        x.length(4);
        C.same("length again", x.least(), 5);
        C.same("best", x.best(-1), 0);
        Checks.measure(x, "add 3");
        C.same("measure", x.best(-1), 12);
        x.change(0, 3, 0, -1, 5, 3);
        C.same("change: its SLIP", x.slip(0, 3), 0);
        x.picture(4, 0, 0, 0);
        C.same("picture", x.least(), -1);
        C.same("picture: BEST", x.best(-1), -1);
        x.back();
        C.same("back: BEST", x.best(-1), 0);
        Checks.kind(x, "leap", 1);
        C.same("kind", x.many(), 11);
    }
}
