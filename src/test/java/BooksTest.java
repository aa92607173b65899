/** Promises 9 to 13: BOOKS, their NOTES, and BOOKS that are WRITTEN. */
public final class BooksTest {
    private static final Checks C = new Checks("BooksTest");

    public static void main(String[] args) {
        promise9();
        promise10();
        promise11();
        promise12();
        promise13();
        promise13Slips();
        promise13Ends();
        promise13Wrong();
        C.end();
    }

    private static MoveNotes withKinds(int n) {
        MoveNotes x = new MoveNotes();
        for (int i = 0; i < n; i++) {
            Checks.kind(x, "straight 1", i);
        }
        return x;
    }

    private static void promise9() {
        MoveNotes x = new MoveNotes();
        C.wrong("way 2", () -> x.book(2));
        C.wrong("way -1", () -> x.book(-1));
        C.same("none came", x.count(2), 0);
        C.same("the first", x.book(1), 0);
        C.same("the second", x.book(0), 1);
        C.same("the third", x.book(1), 2);
        C.full("a fourth", () -> x.book(0));
        C.wrong("a wrong fourth", () -> x.book(2));
        C.same("three", x.count(2), 3);
        C.same("without NOTES", x.count(3), 0);
        // The WAY is the one that was told: a MOVE of SIDE 1 to RANK 4 is 4 by WAY 0, and 1 by WAY 1.
        for (int way = 0; way < 2; way++) {
            MoveNotes y = withKinds(1);
            y.put(0, 0, 0);
            y.put(35, 0, 1);
            y.length(2);
            int b = y.book(way);
            y.note(b, 0, -1, 1, 0);
            y.note(b, 0, -1, 5, way == 0 ? 4 : 1);
            C.same("by WAY " + way, y.least(), 0);
            C.same("the MOVE of SIDE 1", y.read(1), Checks.move(35, 29));
            y.change(b, 1, 0, -1, 5, way == 0 ? 1 : 4);
            C.same("not by the other way", y.least(), -1);
        }
    }

    private static void promise10() {
        MoveNotes x = withKinds(2);
        C.noPlace("no BOOK", () -> x.note(0, 0, -1, 0, 0));
        x.book(0);
        x.book(1);
        C.noPlace("book 2", () -> x.note(2, 0, -1, 0, 0));
        C.noPlace("book -1", () -> x.note(-1, 0, -1, 0, 0));
        C.noPlace("kind 2", () -> x.note(0, 2, -1, 0, 0));
        C.noPlace("kind NONE", () -> x.note(0, -1, -1, 0, 0));
        C.wrong("from -2", () -> x.note(0, 0, -2, 0, 0));
        C.wrong("from 6", () -> x.note(0, 0, 6, 0, 0));
        C.wrong("file -1", () -> x.note(0, 0, -1, -1, 0));
        C.wrong("file 6", () -> x.note(0, 0, -1, 6, 0));
        C.wrong("rank -1", () -> x.note(0, 0, -1, 0, -1));
        C.wrong("rank 6", () -> x.note(0, 0, -1, 0, 6));
        C.noPlace("of two the one told first", () -> x.note(0, 2, 6, 0, 0));
        C.same("none came", x.count(3), 0);
        C.same("the first", x.note(0, 1, 5, 4, 3), 0);
        C.same("in another BOOK the first too", x.note(1, 0, -1, 0, 0), 0);
        for (int n = 1; n < 24; n++) {
            C.same("the next", x.note(0, 0, -1, n % 6, 5), n);
        }
        C.full("a 25th", () -> x.note(0, 0, -1, 0, 0));
        C.wrong("a wrong 25th", () -> x.note(0, 0, -1, 0, 6));
        C.noPlace("a 25th of no KIND", () -> x.note(0, 2, -1, 0, 0));
        C.same("NOTES of all", x.count(3), 25);
        C.same("the other BOOK has room", x.note(1, 1, 0, 0, 0), 1);
        C.same("the last of 24", x.look(0, 23, 2), 5);
    }

    private static void promise11() {
        MoveNotes x = withKinds(2);
        x.book(0);
        C.noPlace("no NOTE yet", () -> x.change(0, 0, 0, -1, 0, 0) ? 1 : 0);
        x.note(0, 0, -1, 2, 3);
        x.note(0, 1, 4, 5, 0);
        C.isFalse("as it was", x.change(0, 0, 0, -1, 2, 3));
        C.isTrue("another KIND", x.change(0, 0, 1, -1, 2, 3));
        C.isTrue("another FILE from", x.change(0, 0, 1, 0, 2, 3));
        C.isTrue("another FILE to", x.change(0, 0, 1, 0, 1, 3));
        C.isTrue("another RANK", x.change(0, 0, 1, 0, 1, 4));
        C.isFalse("as it is now", x.change(0, 0, 1, 0, 1, 4));
        C.isTrue("no FILE from", x.change(0, 0, 1, -1, 1, 4));
        C.same("KIND", x.look(0, 0, 0), 1);
        C.same("FILE from", x.look(0, 0, 1), -1);
        C.same("FILE to", x.look(0, 0, 2), 1);
        C.same("RANK", x.look(0, 0, 3), 4);
        C.same("the next is as it was", x.look(0, 1, 1), 4);
        C.noPlace("book 1", () -> x.change(1, 0, 0, -1, 0, 0) ? 1 : 0);
        C.noPlace("note 2", () -> x.change(0, 2, 0, -1, 0, 0) ? 1 : 0);
        C.noPlace("note -1", () -> x.change(0, -1, 0, -1, 0, 0) ? 1 : 0);
        C.noPlace("kind 2", () -> x.change(0, 0, 2, -1, 0, 0) ? 1 : 0);
        C.noPlace("kind NONE", () -> x.change(0, 0, -1, -1, 0, 0) ? 1 : 0);
        C.wrong("from 6", () -> x.change(0, 0, 0, 6, 0, 0) ? 1 : 0);
        C.wrong("from -2", () -> x.change(0, 0, 0, -2, 0, 0) ? 1 : 0);
        C.wrong("file 6", () -> x.change(0, 0, 0, -1, 6, 0) ? 1 : 0);
        C.wrong("file NONE", () -> x.change(0, 0, 0, -1, -1, 0) ? 1 : 0);
        C.wrong("rank 6", () -> x.change(0, 0, 0, -1, 0, 6) ? 1 : 0);
        C.wrong("rank -1", () -> x.change(0, 0, 0, -1, 0, -1) ? 1 : 0);
        C.noPlace("of two the one told first", () -> x.change(0, 0, 2, 6, 0, 0) ? 1 : 0);
        C.same("nothing came of these", x.look(0, 0, 3), 4);
        C.same("two NOTES", x.count(3), 2);
        // READINGS follow a NOTE that is set otherwise.
        x.put(0, 0, 0);
        x.change(0, 0, 0, -1, 1, 0);
        x.price(7, 1);
        x.change(0, 1, 0, -1, 1, 0);
        C.same("the second is TWICE", x.least(), 1);
        x.change(0, 1, 0, 0, 1, 0);
        C.same("and is not with a FILE from", x.least(), -1);
    }

    private static void promise12() {
        MoveNotes x = withKinds(3);
        C.noPlace("no BOOK", () -> x.look(0, 0, 0));
        x.book(0);
        C.noPlace("no NOTE", () -> x.look(0, 0, 0));
        x.note(0, 2, 3, 4, 5);
        x.note(0, 1, -1, 0, 2);
        C.same("KIND", x.look(0, 0, 0), 2);
        C.same("FILE from", x.look(0, 0, 1), 3);
        C.same("FILE to", x.look(0, 0, 2), 4);
        C.same("RANK to", x.look(0, 0, 3), 5);
        C.same("KIND of the second", x.look(0, 1, 0), 1);
        C.same("no FILE from", x.look(0, 1, 1), -1);
        C.text("what 4", Checks.outcome(() -> x.look(0, 0, 4)), "NoSuchElementException");
        C.text("what -1", Checks.outcome(() -> x.look(0, 0, -1)), "NoSuchElementException");
        C.noPlace("note 2", () -> x.look(0, 2, 0));
        C.noPlace("note -1", () -> x.look(0, -1, 0));
        C.noPlace("book 1 of what 4", () -> x.look(1, 0, 4));
        C.noPlace("book -1", () -> x.look(-1, 0, 0));
    }

    /** The DRAWS of SEED 1 are 16838 5758 10113 17515 31051 5627 23010 7419, of SEED 0: 0 21468 9988 22117 3498 16927. */
    private static void promise13() {
        // From 14 there are MOVES to 8, 13, 15, 20: 16838 modulo 4 is 2. 5758 modulo 10 is 8: no SLIP below 8.
        // From 35 to 29, 34: 10113 modulo 2 is 1. 17515 modulo 10 is 5.
        for (int way = 0; way < 2; way++) {
            MoveNotes x = withKinds(2);
            x.put(14, 1, 0);
            x.put(35, 0, 1);
            C.same("its number", x.write(way, 2, 0, 1), 0);
            C.same("two NOTES", x.count(3), 2);
            note(x, 0, 0, 1, 3, 2);
            note(x, 0, 1, 0, 4, way == 0 ? 5 : 0);
            C.same("it is as it was played", x.least(), 0);
            C.same("the MOVE", x.read(1), Checks.move(35, 34));
            C.same("by its way", x.way(0), way);
            C.same("the next number", x.write(way, 1, 0, 1), 1);
            note(x, 1, 0, 1, 3, 2);
            C.same("NOTES of all", x.count(3), 3);
            C.same("START stays", x.moves(0, 0), Checks.move(14, 8));
        }
        // The third MOVE is from where the first went to: 31051 modulo 4 is 3 (from 15: 9, 14, 16, 21), then 5627.
        MoveNotes x = withKinds(2);
        x.put(14, 1, 0);
        x.put(35, 0, 1);
        x.write(0, 24, 0, 1);
        C.same("24 of them", x.count(3), 24);
        note(x, 0, 2, 1, 3, 3);
        // A lowest SEED draws like SEED 0, but for the highest bit, which is none of the sixteen.
        MoveNotes y = withKinds(1);
        y.put(14, 0, 0);
        y.write(0, 1, 0, Integer.MIN_VALUE);
        note(y, 0, 0, 0, 2, 1);
    }

    private static void note(MoveNotes x, int book, int note, int kind, int file, int rank) {
        C.same("KIND of " + note, x.look(book, note, 0), kind);
        C.same("FILE from of " + note, x.look(book, note, 1), -1);
        C.same("FILE to of " + note, x.look(book, note, 2), file);
        C.same("RANK to of " + note, x.look(book, note, 3), rank);
    }

    private static void promise13Slips() {
        // SEED 1, told 9: 5758 modulo 10 is 8, so a SLIP by 10113 modulo 3: 0, KIND one more, modulo how many.
        MoveNotes x = withKinds(2);
        x.put(14, 1, 0);
        x.put(35, 0, 1);
        x.write(0, 2, 9, 1);
        note(x, 0, 0, 0, 3, 2);
        // Then 17515 modulo 2 is 1, 31051 modulo 10 is 1: a SLIP by 5627 modulo 3: 2, RANK, 5: one less.
        note(x, 0, 1, 0, 4, 4);
        MoveNotes z = withKinds(3);
        z.put(14, 1, 0);
        z.put(35, 0, 1);
        z.write(1, 2, 9, 1);
        note(z, 0, 0, 2, 3, 2);
        // By WAY 1 that RANK is 0, and one more.
        note(z, 0, 1, 0, 4, 1);
        // Told 8 is not above 8.
        MoveNotes y = withKinds(2);
        y.put(14, 1, 0);
        y.write(0, 1, 8, 1);
        note(y, 0, 0, 1, 3, 2);
        // One KIND: one more is the same.
        MoveNotes o = withKinds(1);
        o.put(14, 0, 0);
        o.write(0, 1, 9, 1);
        note(o, 0, 0, 0, 3, 2);
        // SEED 0: the first MOVE; 21468 modulo 10 is 8; 9988 modulo 3 is 1: FILE one more, or one less.
        MoveNotes f = withKinds(2);
        f.put(14, 0, 0);
        f.write(0, 1, 9, 0);
        note(f, 0, 0, 0, 3, 1);
        MoveNotes g = withKinds(2);
        g.put(17, 0, 0);
        g.write(0, 1, 9, 0);
        note(g, 0, 0, 0, 4, 1);
    }

    private static void promise13Ends() {
        // The other SIDE has nobody.
        MoveNotes x = withKinds(1);
        x.put(14, 0, 0);
        C.same("a BOOK", x.write(0, 24, 0, 3), 0);
        C.same("of one NOTE", x.count(3), 1);
        // Nobody at all.
        MoveNotes y = new MoveNotes();
        C.same("a BOOK all the same", y.write(1, 5, 9, 3), 0);
        C.same("without NOTES", y.count(3), 0);
        C.same("it is one", y.count(2), 1);
        // It can be gone on with.
        MoveNotes z = withKinds(1);
        z.put(14, 0, 0);
        z.write(0, 24, 0, 3);
        C.same("one more NOTE", z.note(0, 0, -1, 0, 0), 1);
        // A BOOK that is written where one of more NOTES was gone back from.
        z.image();
        z.book(0);
        z.note(1, 0, -1, 0, 0);
        z.note(1, 0, -1, 0, 0);
        z.back();
        C.same("in its place", z.write(0, 24, 0, 3), 1);
        C.same("its own NOTES alone", z.count(3), 3);
        z.back();
        C.same("one by hand", z.book(0), 1);
        C.same("has none", z.count(3), 2);
        // A man that is TAKEN goes no more: SIDE 1 has one, who can just be TAKEN.
        MoveNotes t = new MoveNotes();
        Checks.kind(t, "bite", 1);
        Checks.kind(t, "leap", 1);
        t.put(0, 0, 0);
        t.put(7, 1, 1);
        t.write(0, 24, 0, 1);
        C.same("one NOTE", t.count(3), 1);
        note(t, 0, 0, 0, 1, 1);
    }

    private static void promise13Wrong() {
        MoveNotes x = withKinds(1);
        x.put(14, 0, 0);
        C.wrong("way 2", () -> x.write(2, 1, 0, 0));
        C.wrong("way -1", () -> x.write(-1, 1, 0, 0));
        C.wrong("0 MOVES", () -> x.write(0, 0, 0, 0));
        C.wrong("25 MOVES", () -> x.write(0, 25, 0, 0));
        C.wrong("told -1", () -> x.write(0, 1, -1, 0));
        C.wrong("told 10", () -> x.write(0, 1, 10, 0));
        C.same("none came", x.count(2), 0);
        for (int n = 0; n < 3; n++) {
            C.same("BOOK " + n, x.write(n % 2, 1 + 23 * (n % 2), 9 * (n % 2), n), n);
        }
        C.full("a fourth", () -> x.write(0, 1, 0, 0));
        C.wrong("a wrong fourth", () -> x.write(0, 1, 10, 0));
        C.same("three", x.count(2), 3);
    }
}
