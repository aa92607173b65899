/** Promises 17 to 22: LEAST, MANY, FIRST, NEXT, and the SLIPS of FIRST. */
public final class ReadingsTest {
    private static final Checks C = new Checks("ReadingsTest");

    public static void main(String[] args) {
        promise17Lost();
        promise17Twice();
        promise17Slips();
        promise17Ways();
        promise17Books();
        promise17Spent();
        promise17Longest();
        promise18();
        promise19();
        promise20();
        promise21Ties();
        promise21Order();
        promise21();
        promise22();
        C.end();
    }

    private static MoveNotes walkers() {
        return SettingsTest.walkers();
    }

    /** The MOVES of the walkers, as FILE and RANK to. */
    private static final int[][] WALK = {{0, 1}, {5, 4}, {0, 2}, {5, 3}, {0, 3}, {5, 2}, {0, 4}, {5, 1}, {0, 5}, {5, 0}};

    private static void notes(MoveNotes x, int book, int... moves) {
        for (int m : moves) {
            x.note(book, 0, -1, WALK[m][0], WALK[m][1]);
        }
    }

    private static void promise17Lost() {
        MoveNotes x = walkers();
        int b = x.book(0);
        C.same("no NOTES", x.least(), 0);
        C.same("START alone", x.many(), 1);
        notes(x, b, 0, 1, 2);
        C.same("all as it is", x.least(), 0);
        C.same("of three MOVES", x.read(-1), 3);
        C.same("four positions", x.count(6), 4);
        MoveNotes y = walkers();
        notes(y, y.book(0), 1, 4);
        C.same("three MOVES without NOTES", y.least(), -1);
        C.same("one position a PRICE", y.count(6), 21);
        y.price(6, 2);
        C.same("are LOST", y.least(), 6);
        C.same("five MOVES", y.read(-1), 5);
        // PRICES 0 and 1: START. 2, 3: two MOVES, 4: m2 too, 5: m2, 6: all.
        C.same("positions", y.count(6), 1 + 1 + 3 + 3 + 4 + 4 + 6);
        y.price(6, 7);
        C.same("21 is too much", y.least(), -1);
        y.price(6, 6);
        C.same("18", y.least(), 18);
        // Just 20.
        MoveNotes z = walkers();
        notes(z, z.book(0), 4);
        z.price(6, 5);
        C.same("20 is not too much", z.least(), 20);
        // A NOTE of no MOVE cannot be left out.
        MoveNotes w = walkers();
        int c = w.book(0);
        notes(w, c, 0, 1);
        w.note(c, 0, -1, 3, 3);
        for (int slip = 1; slip <= 7; slip++) {
            w.price(slip, 1);
        }
        C.same("a NOTE of no MOVE", w.least(), -1);
    }

    private static void promise17Twice() {
        MoveNotes x = walkers();
        int b = x.book(0);
        notes(x, b, 0, 0, 1, 1, 1, 2);
        C.same("TWICE may not be", x.least(), -1);
        x.price(7, 4);
        C.same("three are TWICE", x.least(), 12);
        C.same("of three MOVES", x.read(-1), 3);
        C.same("slip of the first", x.slip(b, 0), 0);
        C.same("slip of the second", x.slip(b, 1), 7);
        C.same("slip of the fourth", x.slip(b, 3), 7);
        C.same("slip of the fifth", x.slip(b, 4), 7);
        C.same("slip of the sixth", x.slip(b, 5), 0);
        x.change(b, 1, 0, 0, 0, 1);
        C.same("like it in all four", x.least(), -1);
        x.change(b, 0, 0, 0, 0, 1);
        C.same("also in FILE from", x.least(), 12);
        // The first NOTE has none ahead of it, and what lies before the one ahead does not count.
        MoveNotes y = walkers();
        int c = y.book(0);
        notes(y, c, 0, 1, 0);
        y.price(7, 1);
        C.same("not the one before the one ahead", y.least(), -1);
        // Nor the last NOTE of another BOOK.
        MoveNotes z = walkers();
        notes(z, z.book(0), 0);
        z.book(0);
        notes(z, 1, 0, 0);
        z.price(7, 1);
        C.same("of its BOOK", z.least(), 1);
        C.same("the first is none", z.slip(1, 0), 0);
        // The first NOTE of each BOOK, that FITS no MOVE, with MOVES LOST: all cells 0, or like the last of 24 before.
        MoveNotes w = walkers();
        w.book(0);
        w.note(0, 0, 0, 0, 0);
        w.price(6, 1);
        w.price(7, 1);
        C.same("the first of all is not TWICE", w.least(), -1);
        MoveNotes v = walkers();
        v.book(0);
        for (int n = 0; n < 24; n++) {
            v.note(0, 0, 0, 0, 1);
        }
        v.price(6, 1);
        v.price(7, 1);
        v.book(0);
        v.note(1, 0, 0, 0, 1);
        v.change(0, 0, 0, 0, 0, 1);
        C.same("24 less one are TWICE", v.least(), -1);
        v.image();
        C.same("alone", v.way(1), -3);
        C.same("one and 23 are too much", v.breaks(0), 1);
    }

    /** One man, one MOVE: from SQUARE 8 to 14, or by RANK 0 from 2 to 8; another KIND too. */
    private static MoveNotes oneMove(int from) {
        MoveNotes x = new MoveNotes();
        Checks.kind(x, "ahead 1", 1);
        Checks.kind(x, "ahead 1", 1);
        x.put(from, 0, 0);
        x.book(0);
        x.note(0, 0, -1, 0, 0);
        return x;
    }

    private static void fits(int from, int[] note, int... slips) {
        MoveNotes x = oneMove(from);
        x.change(0, 0, note[0], note[1], note[2], note[3]);
        StringBuilder s = new StringBuilder("from ").append(from).append(" NOTE");
        for (int cell : note) {
            s.append(' ').append(cell);
        }
        C.same(s + " without SLIPS", x.least(), slips.length > 0 && slips[0] == 0 ? 0 : -1);
        for (int slip = 1; slip <= 5; slip++) {
            boolean isOne = false;
            for (int due : slips) {
                isOne |= due == slip;
            }
            x.price(slip, 6);
            C.same(s + " with SLIP " + slip, x.least(), slips.length > 0 && slips[0] == 0 ? 0 : isOne ? 6 : -1);
            C.same(s + " has SLIP " + slip, x.slip(0, 0), slips.length > 0 && slips[0] == 0 ? 0 : isOne ? slip : -1);
            x.price(slip, 0);
        }
        for (int slip = 1; slip <= 5; slip++) {
            x.price(slip, 9 - slip);
        }
        int last = slips.length == 0 ? -1 : slips[slips.length - 1];
        C.same(s + " with all", x.least(), last <= 0 ? last : 9 - last);
        C.same(s + " has of all", x.slip(0, 0), last);
    }

    private static void promise17Slips() {
        fits(8, new int[] {0, -1, 2, 2}, 0);
        fits(8, new int[] {0, 2, 2, 2}, 0);
        fits(8, new int[] {1, -1, 2, 2}, 1);
        fits(8, new int[] {1, 2, 2, 2}, 1);
        fits(8, new int[] {0, -1, 3, 2}, 2);
        fits(8, new int[] {0, -1, 1, 2}, 2);
        fits(8, new int[] {0, 2, 1, 2}, 2);
        fits(8, new int[] {0, -1, 4, 2});
        fits(8, new int[] {0, -1, 0, 2});
        fits(8, new int[] {0, -1, 5, 2});
        fits(8, new int[] {0, -1, 2, 1}, 3);
        fits(8, new int[] {0, -1, 2, 3}, 3, 4);
        fits(8, new int[] {0, -1, 2, 0});
        fits(8, new int[] {0, -1, 2, 4});
        fits(8, new int[] {0, -1, 2, 5});
        fits(2, new int[] {0, -1, 2, 4}, 4);
        fits(2, new int[] {0, 2, 2, 4}, 4);
        fits(2, new int[] {0, -1, 2, 0}, 3);
        fits(2, new int[] {0, -1, 2, 2}, 3);
        fits(2, new int[] {0, -1, 2, 3});
        fits(14, new int[] {0, -1, 2, 2}, 3, 4);
        fits(8, new int[] {0, 3, 2, 2}, 5);
        fits(8, new int[] {0, 0, 2, 2}, 5);
        fits(8, new int[] {0, 5, 2, 2}, 5);
        // Just one thing is otherwise.
        fits(8, new int[] {1, -1, 3, 2});
        fits(8, new int[] {1, -1, 2, 3});
        fits(8, new int[] {1, 0, 2, 2});
        fits(8, new int[] {0, -1, 1, 3});
        fits(8, new int[] {0, 0, 1, 2});
        fits(8, new int[] {0, 0, 2, 3});
        fits(8, new int[] {0, 0, 2, 1});
        fits(2, new int[] {1, -1, 2, 4});
        fits(2, new int[] {0, -1, 1, 4});
        fits(2, new int[] {0, 0, 2, 4});
        fits(8, new int[] {1, 0, 3, 3});
    }

    private static void promise17Ways() {
        // By WAY 1 SIDE 1 counts from its own side: to 29 is FILE 5, RANK 4, so 1; SIDE 0 counts as ever.
        MoveNotes x = walkers();
        int b = x.book(1);
        x.note(b, 0, -1, 0, 1);
        x.note(b, 0, -1, 5, 1);
        C.same("counted from the side of who moves", x.least(), 0);
        x.change(b, 1, 0, -1, 5, 4);
        C.same("as it is, is none", x.least(), -1);
        x.price(3, 1);
        C.same("nor off by one", x.least(), -1);
        x.price(4, 2);
        C.same("that is the SIDE", x.least(), 2);
        x.change(b, 1, 0, -1, 5, 2);
        C.same("off by one more", x.least(), 1);
        x.change(b, 1, 0, -1, 5, 0);
        C.same("off by one less", x.least(), 1);
        x.change(b, 1, 0, -1, 5, 1);
        x.change(b, 0, 0, -1, 0, 4);
        C.same("the SIDE for SIDE 0", x.least(), 2);
        // By WAY 0 both as they are.
        MoveNotes y = walkers();
        int c = y.book(0);
        notes(y, c, 0, 1);
        C.same("as they are", y.least(), 0);
        y.change(c, 1, 0, -1, 5, 1);
        C.same("not counted from the side", y.least(), -1);
        y.price(4, 9);
        C.same("that is the SIDE again", y.least(), 9);
    }

    private static void promise17Books() {
        // Of two BOOKS the PRICES together; the one READING is of both.
        MoveNotes x = walkers();
        notes(x, x.book(0), 0, 1, 2);
        notes(x, x.book(0), 0, 2);
        x.price(6, 3);
        C.same("one is LOST in the second", x.least(), 3);
        C.same("three MOVES", x.read(-1), 3);
        notes(x, x.book(1), 0);
        C.same("two more in the third", x.least(), 9);
        C.same("LOST in the first", x.slips(0, 6), 0);
        C.same("LOST in the second", x.slips(1, 6), 1);
        C.same("LOST in the third", x.slips(2, 6), 2);
        // Which of several MOVES it is, is settled by both.
        MoveNotes y = new MoveNotes();
        Checks.kind(y, "straight 1", 1);
        y.put(14, 0, 0);
        y.book(0);
        y.book(0);
        y.note(0, 0, -1, 1, 2);
        y.note(1, 0, -1, 3, 2);
        y.price(2, 1);
        C.same("neither may be off by two", y.least(), -1);
        y.change(1, 0, 0, -1, 2, 2);
        C.same("nor may a man stay", y.least(), 1);
        C.same("to 13", y.read(0), Checks.move(14, 13));
        y.price(3, 1);
        y.change(0, 0, 0, -1, 2, 2);
        C.same("both off by one", y.least(), 2);
        C.same("four ways", y.many(), 4);
        C.same("the first", y.read(0), Checks.move(14, 8));
    }

    private static void promise17Spent() {
        int[][][] boards = {
            {{12, 0, 0}, {18, 1, 0}, {16, 1, 0}, {20, 0, 1}},
            {{11, 1, 0}, {35, 0, 1}, {27, 1, 0}, {29, 1, 1}, {18, 0, 0}, {6, 1, 1}}
        };
        for (int n = 0; n < 2; n++) {
            MoveNotes x = new MoveNotes();
            Checks.kind(x, "straight 5; slant 5", 1);
            Checks.kind(x, "leap", 1);
            for (int[] man : boards[n]) {
                x.put(man[0], man[1], man[2]);
            }
            x.length(3);
            boolean isSpent = n == 1;
            C.same("LEAST of " + (8000 + n) + " positions", x.least(), isSpent ? -2 : 0);
            C.same("count(6)", x.count(6), isSpent ? -2 : 8000);
            C.same("read(0)", x.read(0) == -2 ? 1 : 0, n);
            C.same("best(NONE)", x.best(-1), isSpent ? -2 : 0);
            C.same("odds above, of width 0", x.odds(0, 0, false) == -2 ? 1 : 0, n);
            C.same("odds, of width 1", x.odds(0, 1, false), -2);
        }
        // START and two MOVES: 380 and 381 positions. No READING: 21 times 380 are 7980, 21 times 381 are 8001.
        int[][][] more = {
            {{27, 2, 0}, {20, 1, 1}, {8, 2, 0}, {35, 1, 1}},
            {{25, 2, 0}, {17, 1, 1}, {27, 1, 0}, {2, 2, 1}, {16, 2, 0}}
        };
        for (int n = 0; n < 2; n++) {
            MoveNotes x = new MoveNotes();
            Checks.kind(x, "", 1);
            Checks.kind(x, "straight 5; slant 5", 1);
            Checks.kind(x, "leap", 1);
            for (int[] man : more[n]) {
                x.put(man[0], man[1], man[2]);
            }
            x.length(2);
            C.same("by PRICE 0", x.count(6), 380 + n);
            x.picture(2, 0, 0, 0);
            C.same("LEAST of 21 times " + (380 + n), x.least(), n == 0 ? -1 : -2);
            C.same("count(6) of 21 times " + (380 + n), x.count(6), n == 0 ? 7980 : -2);
            C.same("odds of 21 times " + (380 + n), x.odds(0, 0, false), n == 0 ? -1 : -2);
        }
    }

    /** Three BOOKS of 24 NOTES each and 30 MOVES: two men of one MOVE each for ever, between others without LINES. */
    private static void promise17Longest() {
        MoveNotes x = new MoveNotes();
        Checks.kind(x, "straight 1", 1);
        Checks.kind(x, "", 1);
        int[] still = {2, 6, 7, 33, 29, 28};
        for (int n = 0; n < 6; n++) {
            x.put(still[n], 1, n / 3);
        }
        x.put(0, 0, 0);
        x.put(35, 0, 1);
        for (int b = 0; b < 3; b++) {
            x.book(b % 2);
            for (int n = 0; n < 24; n++) {
                int file = n % 2 == 0 ? (n + 2) / 2 % 2 : 5 - (n + 1) / 2 % 2;
                x.note(b, 0, -1, file, n % 2 == 1 && b % 2 == 0 ? 5 : 0);
            }
        }
        C.same("24 MOVES", x.read(-1), 24);
        C.same("the last NOTE of all", x.slip(2, 23), 0);
        x.length(30);
        C.same("30 MOVES", x.least(), -1);
        x.price(6, 1);
        C.same("six LOST in each BOOK", x.least(), 18);
        C.same("one READING", x.many(), 1);
        C.same("24 positions for 24 MOVES and START, then one more for each three", x.count(6),
                3 * (25 + 26 + 27 + 28 + 29 + 30) + 31);
        for (int b = 0; b < 3; b++) {
            C.same("LOST in BOOK " + b, x.slips(b, 6), 6);
            C.same("the last NOTE of BOOK " + b, x.slip(b, 23), 0);
        }
        Checks.measure(x, "add 1 * number");
        C.same("PLAYED", x.best(-1), 465);
        C.same("the last MOVE", x.best(29), Checks.move(35, 34));
        C.same("odds of the last MOVE", x.odds(29, 2, true), 1);
        C.same("BRIEF at the last MOVE", x.brief(29), 1);
        x.change(2, 23, 0, -1, 3, 5);
        C.same("the last NOTE otherwise", x.least(), -1);
        x.price(2, 2);
        C.same("the FILE of the last NOTE", x.least(), 20);
        C.same("its SLIP", x.slip(2, 23), 2);
        C.same("that of another BOOK", x.slip(1, 23), 0);
    }

    private static void promise18() {
        MoveNotes x = new MoveNotes();
        Checks.kind(x, "straight 1", 1);
        x.put(0, 0, 0);
        x.put(35, 0, 1);
        x.length(1);
        C.same("two MOVES", x.many(), 2);
        x.length(2);
        C.same("two and two", x.many(), 4);
        x.length(-1);
        int b = x.book(0);
        x.price(6, 1);
        C.same("just START", x.many(), 1);
        x.length(3);
        C.same("LOST ones", x.many(), 2 * 2 * 1 + 2 * 2 * 2);
        x.length(-1);
        x.note(b, 0, -1, 1, 1);
        C.same("the third MOVE goes to 7", x.many(), 4);
        C.same("for two LOST", x.least(), 2);
        x.price(6, 0);
        C.same("none", x.many(), -1);
        // A READING of more than the least PRICE is not counted.
        MoveNotes y = new MoveNotes();
        Checks.kind(y, "straight 2", 1);
        y.put(0, 0, 0);
        y.book(0);
        y.note(0, 0, -1, 1, 0);
        y.price(2, 1);
        C.same("one of PRICE 0", y.many(), 1);
        y.change(0, 0, 0, -1, 1, 1);
        y.price(3, 1);
        C.same("two of PRICE 1", y.many(), 2);
        y.price(3, 2);
        C.same("one of PRICE 1", y.many(), 1);
        C.same("it is that by the FILE", y.read(0), Checks.move(0, 6));
    }

    private static void promise19() {
        MoveNotes x = walkers();
        x.length(4);
        C.same("how many", x.read(-1), 4);
        C.same("MOVE 0", x.read(0), Checks.move(0, 6));
        C.same("MOVE 1", x.read(1), Checks.move(35, 29));
        C.same("MOVE 2", x.read(2), Checks.move(6, 12));
        C.same("MOVE 3", x.read(3), Checks.move(29, 23));
        C.same("MOVE 4", x.read(4), -3);
        C.same("MOVE 30", x.read(30), -3);
        C.same("a MOVE far off", x.read(Integer.MAX_VALUE), -3);
        C.wrong("i -2", () -> x.read(-2));
        x.length(11);
        C.same("no READING", x.read(-1), -1);
        C.same("no READING, MOVE 0", x.read(0), -1);
        C.wrong("i -2 without a READING", () -> x.read(-2));
        // FIRST: by the order of MOVES, and ahead of those that go on from it.
        x.length(-1);
        C.same("the shortest of those that go on", x.read(-1), 0);
        // What is TAKEN is gone, and who took goes on from there.
        MoveNotes y = new MoveNotes();
        Checks.kind(y, "straight 5", 1);
        y.put(0, 0, 0);
        y.put(5, 0, 1);
        y.put(35, 0, 1);
        y.book(0);
        y.note(0, 0, -1, 5, 0);
        y.note(0, 0, 5, 5, 1);
        y.note(0, 0, 5, 5, 1);
        C.same("TAKEN by the one at 35", y.least(), 0);
        C.same("0 takes 5", y.read(0), Checks.move(0, 5));
        C.same("35 to 11", y.read(1), Checks.move(35, 11));
        C.same("5 takes 11", y.read(2), Checks.move(5, 11));
        y.note(0, 0, -1, 5, 2);
        C.same("nobody is left to go on", y.least(), -1);
    }

    private static void promise20() {
        MoveNotes x = walkers();
        C.same("NEXT goes on from FIRST", x.readNext(-1), 1);
        C.same("its MOVE", x.readNext(0), Checks.move(0, 6));
        C.same("it has no more", x.readNext(1), -3);
        C.wrong("i -2", () -> x.readNext(-2));
        x.length(4);
        C.same("there is no NEXT", x.readNext(-1), -3);
        C.same("nor its MOVE", x.readNext(0), -3);
        x.length(11);
        C.same("no READING", x.readNext(-1), -1);
        C.wrong("i -2 without a READING", () -> x.readNext(-2));
        MoveNotes y = new MoveNotes();
        Checks.kind(y, "straight 1", 1);
        y.put(14, 0, 0);
        y.put(35, 0, 1);
        y.length(2);
        C.same("FIRST", y.read(1), Checks.move(35, 29));
        C.same("NEXT begins alike", y.readNext(0), Checks.move(14, 8));
        C.same("and ends otherwise", y.readNext(1), Checks.move(35, 34));
        C.same("how many", y.readNext(-1), 2);
        // Of just two.
        MoveNotes z = new MoveNotes();
        Checks.kind(z, "straight 1", 1);
        z.put(0, 0, 0);
        z.length(1);
        C.same("two", z.many(), 2);
        C.same("the second of two", z.readNext(0), Checks.move(0, 6));
        C.same("of one MOVE", z.readNext(-1), 1);
        C.same("part of two", z.part(), 0);
    }

    /** One MOVE a SIDE: to FILE 0, RANK 1, and to FILE 1, RANK 2; NOTES of FILE 1, RANK 1 are off by one with both. */
    private static MoveNotes between(int notes, int slip, int lost, int twice) {
        MoveNotes x = new MoveNotes();
        Checks.kind(x, "ahead 1", 1);
        x.put(0, 0, 0);
        x.put(19, 0, 1);
        x.length(2);
        x.book(0);
        for (int n = 0; n < notes; n++) {
            x.note(0, 0, -1, 1, 1);
        }
        x.price(2, slip);
        x.price(3, slip);
        x.price(6, lost);
        x.price(7, twice);
        return x;
    }

    private static void promise21Ties() {
        // Either MOVE could be LOST: from the end back, the last has the NOTE.
        MoveNotes x = between(1, 1, 1, 0);
        C.same("one LOST, one off", x.least(), 2);
        C.same("the NOTE is of the last MOVE", x.slip(0, 0), 3);
        C.same("one LOST", x.slips(0, 6), 1);
        // A LOST MOVE ahead of a NOTE that is TWICE: the last MOVE is LOST, and the first NOTE is of the first.
        MoveNotes y = between(2, 3, 1, 1);
        C.same("off, LOST, TWICE", y.least(), 5);
        C.same("the first NOTE is of the first MOVE", y.slip(0, 0), 2);
        C.same("the second is TWICE", y.slip(0, 1), 7);
        C.same("LOST", y.slips(0, 6), 1);
        // A NOTE of the last MOVE ahead of a NOTE that is TWICE.
        MoveNotes z = between(2, 2, 1, 1);
        C.same("both off, or one and LOST and TWICE", z.least(), 4);
        C.same("the first off by the FILE", z.slip(0, 0), 2);
        C.same("the second off by the RANK", z.slip(0, 1), 3);
        C.same("none LOST", z.slips(0, 6), 0);
        C.same("none TWICE", z.slips(0, 7), 0);
        // What is less stands ahead of what is preferred.
        MoveNotes w = between(1, 1, 1, 0);
        w.price(3, 2);
        C.same("the first is less", w.least(), 2);
        C.same("so it has the NOTE", w.slip(0, 0), 2);
    }

    /** Of several SLIPS with which a NOTE FITS: the one of the least PRICE, then the least number. */
    private static void promise21Order() {
        int[][] due = {{1, 1, 3}, {2, 1, 4}, {1, 2, 3}, {0, 1, 4}, {1, 0, 3}, {9, 9, 3}, {9, 8, 4}};
        for (int[] d : due) {
            MoveNotes x = oneMove(8);
            x.change(0, 0, 0, -1, 2, 3);
            x.price(3, d[0]);
            x.price(4, d[1]);
            C.same("RANK for " + d[0] + ", SIDE for " + d[1], x.slip(0, 0), d[2]);
            C.same("LEAST of these", x.least(), d[d[2] - 3]);
        }
    }

    private static void promise21() {
        MoveNotes x = oneMove(8);
        C.noPlace("note 1", () -> x.slip(0, 1));
        C.noPlace("note -1", () -> x.slip(0, -1));
        C.noPlace("book 1", () -> x.slip(1, 0));
        C.noPlace("book -1", () -> x.slip(-1, 0));
        C.same("no READING", x.slip(0, 0), -1);
        C.noPlace("note 1 without a READING", () -> x.slip(0, 1));
        // Of each BOOK its own.
        MoveNotes y = walkers();
        notes(y, y.book(0), 0, 1);
        notes(y, y.book(0), 0, 1);
        y.price(2, 1);
        y.price(5, 1);
        y.change(0, 1, 0, -1, 4, 4);
        y.change(1, 0, 0, 3, 0, 1);
        C.same("LEAST", y.least(), 2);
        C.same("book 0, note 0", y.slip(0, 0), 0);
        C.same("book 0, note 1", y.slip(0, 1), 2);
        C.same("book 1, note 0", y.slip(1, 0), 5);
        C.same("book 1, note 1", y.slip(1, 1), 0);
        // Also behind other questions.
        y.odds(0, 2, true);
        y.best(-1);
        y.way(0);
        y.cheaper(2);
        y.breaks(0);
        C.same("book 0, note 1 again", y.slip(0, 1), 2);
        C.same("book 1, note 0 again", y.slip(1, 0), 5);
        y.change(0, 1, 0, -1, 5, 4);
        C.same("set otherwise", y.slip(0, 1), 0);
        // Each MOVE is of its own man: KINDS 0, 1, 2 by turns.
        MoveNotes z = new MoveNotes();
        Checks.kind(z, "ahead 1", 1);
        Checks.kind(z, "ahead 1", 1);
        Checks.kind(z, "ahead 1", 1);
        z.put(0, 0, 0);
        z.put(35, 1, 1);
        z.put(2, 2, 0);
        z.book(0);
        z.note(0, 0, 0, 0, 1);
        z.note(0, 1, 5, 5, 4);
        z.note(0, 2, 2, 2, 1);
        z.price(1, 1);
        z.price(5, 2);
        C.same("all as it is", z.least(), 0);
        z.change(0, 1, 2, 5, 5, 4);
        C.same("KIND of the second", z.slip(0, 1), 1);
        C.same("not of the third", z.slip(0, 2), 0);
        z.change(0, 2, 2, 3, 2, 1);
        C.same("FILE from of the third", z.slip(0, 2), 5);
        C.same("KIND of the second still", z.slip(0, 1), 1);
        C.same("LEAST of both", z.least(), 3);
    }

    private static void promise22() {
        MoveNotes x = new MoveNotes();
        Checks.kind(x, "ahead 1", 1);
        Checks.kind(x, "", 1);
        x.put(0, 0, 0);
        x.put(35, 0, 1);
        int b = x.book(0);
        x.note(b, 1, -1, 0, 1);
        x.note(b, 0, -1, 4, 4);
        x.note(b, 0, -1, 1, 2);
        x.note(b, 0, -1, 5, 2);
        x.note(b, 0, 4, 0, 3);
        x.note(b, 0, 4, 0, 3);
        x.note(b, 0, -1, 0, 4);
        x.note(b, 0, -1, 5, 4);
        x.book(0);
        int[] prices = {0, 1, 1, 2, 1, 2, 1, 1};
        for (int slip = 1; slip <= 7; slip++) {
            x.price(slip, prices[slip]);
        }
        // KIND, FILE, FILE, SIDE or RANK (3 for 2: RANK 2, SIDE 1), FROM, TWICE, one LOST (m5), none, SIDE; the second
        // BOOK: eight LOST.
        C.same("LEAST", x.least(), 1 + 1 + 1 + 1 + 2 + 1 + 1 + 1 + 8);
        int[] due = {0, 1, 2, 0, 2, 1, 1, 1};
        for (int slip = 1; slip <= 7; slip++) {
            C.same("slips " + slip, x.slips(b, slip), due[slip]);
            C.same("slips " + slip + " of the other", x.slips(1, slip), slip == 6 ? 8 : 0);
        }
        C.noPlace("slip 0", () -> x.slips(b, 0));
        C.noPlace("slip 8", () -> x.slips(b, 8));
        C.noPlace("book 2", () -> x.slips(2, 1));
        C.noPlace("book -1", () -> x.slips(-1, 1));
        x.price(1, 0);
        C.same("no READING", x.slips(b, 2), -1);
        C.noPlace("slip 8 without a READING", () -> x.slips(b, 8));
    }
}
