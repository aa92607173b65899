/**
 * The edges that part 2 of the document's Terms names: READINGS, THE LENGTH, PICTURES, LEAST, SPENT, SLIPS of FIRST. One
 * method a sentence; the sentence stands ahead of it.
 */
public final class EdgesReadingsTest {
    private static final Checks C = new Checks("EdgesReadingsTest");
    private static final int LOWEST = Integer.MIN_VALUE;
    private static final int HIGHEST = Integer.MAX_VALUE;

    public static void main(String[] args) {
        thirtyMoves();
        movesThatThereAre();
        allNotes();
        allBooksTogether();
        theLength();
        pictureBehind();
        picturesTen();
        asManyMoves();
        leastTwenty();
        many();
        order();
        next();
        positions();
        oneByOne();
        spent();
        spentAheadOfAll();
        noReading();
        then();
        priceSoFar();
        barred();
        notGoneOnFrom();
        slipsOfNotes();
        severalWays();
        C.end();
    }

    private static MoveNotes walkers() {
        return SettingsTest.walkers();
    }

    /** The walkers' MOVE n goes to FILE 0 or 5, and to these RANKS. */
    private static int fileOf(int n) {
        return n % 2 == 0 ? 0 : 5;
    }

    private static int rankOf(int n) {
        return n % 2 == 0 ? n / 2 + 1 : 4 - n / 2;
    }

    private static void walk(MoveNotes x, int book, int from, int behind) {
        for (int n = from; n < behind; n++) {
            x.note(book, 0, -1, fileOf(n), rankOf(n));
        }
    }

    /** Two that go to and fro, 0 and 1, 35 and 34, between others without LINES: one MOVE each time, for ever. */
    static MoveNotes shufflers() {
        MoveNotes x = new MoveNotes();
        Checks.kind(x, "straight 1", 1);
        Checks.kind(x, "", 1);
        x.put(0, 0, 0);
        x.put(35, 0, 1);
        for (int square : new int[] {2, 6, 7}) {
            x.put(square, 1, 0);
            x.put(35 - square, 1, 1);
        }
        return x;
    }

    /** NOTES of the shufflers' MOVES by WAY 0. */
    static void shuffle(MoveNotes x, int book, int from, int behind) {
        for (int n = from; n < behind; n++) {
            boolean isThere = n % 4 < 2;
            int file = n % 2 == 0 ? (isThere ? 1 : 0) : isThere ? 4 : 5;
            x.note(book, 0, -1, file, n % 2 == 0 ? 0 : 5);
        }
    }

    // "A READING: MOVES (at most 30) from START on"
    private static void thirtyMoves() {
        MoveNotes x = shufflers();
        C.same("0 to 30 MOVES", x.many(), 31);
        C.same("31 positions", x.count(6), 31);
        x.length(30);
        C.same("30", x.read(-1), 30);
        C.same("one", x.many(), 1);
        C.same("MOVE 29 is the fifteenth of SIDE 1", x.read(29), Checks.move(35, 34));
        C.same("no MOVE 30", x.read(30), -3);
        x.length(29);
        C.same("29", x.read(-1), 29);
        C.same("no MOVE 29", x.read(29), -3);
    }

    // "each one that there is then"
    private static void movesThatThereAre() {
        MoveNotes x = walkers();
        x.book(0);
        walk(x, 0, 0, 10);
        C.same("all ten", x.least(), 0);
        x.note(0, 0, -1, 0, 5);
        C.same("an eleventh is not there", x.least(), -1);
        // From SQUARE 0 he cannot go to 12 at once, only from 6.
        MoveNotes y = walkers();
        y.book(0);
        y.note(0, 0, -1, 0, 2);
        C.same("it is not there yet", y.least(), -1);
        y.price(6, 1);
        C.same("it is then", y.least(), 2);
    }

    // "of each BOOK, its NOTES in order, each is of one MOVE (with a SLIP, 0 or one that may be), or TWICE"
    private static void allNotes() {
        MoveNotes x = walkers();
        x.book(0);
        C.same("no NOTES", x.least(), 0);
        C.same("no MOVES", x.read(-1), 0);
        walk(x, 0, 0, 2);
        C.same("in order", x.least(), 0);
        x.change(0, 0, 0, -1, 5, 4);
        x.change(0, 1, 0, -1, 0, 1);
        C.same("not in order", x.least(), -1);
        for (int slip = 1; slip <= 7; slip++) {
            x.price(slip, slip == 6 ? 0 : 1);
        }
        C.same("not even with all SLIPS of NOTES", x.least(), -1);
        x.price(6, 1);
        C.same("the first MOVE LOST, and the third for the second NOTE, by the RANK", x.least(), 2);
        // 24 NOTES of 24 MOVES.
        MoveNotes y = shufflers();
        y.book(0);
        shuffle(y, 0, 0, 24);
        C.same("24 NOTES", y.least(), 0);
        C.same("24 MOVES", y.read(-1), 24);
        C.same("one READING", y.many(), 1);
    }

    // "so that all PRICES are least; all BOOKS together"
    private static void allBooksTogether() {
        MoveNotes x = walkers();
        C.same("without BOOKS no PRICE", x.least(), 0);
        C.same("all beginnings", x.many(), 11);
        x.price(6, 3);
        for (int b = 0; b < 3; b++) {
            x.book(b % 2);
        }
        x.length(2);
        C.same("two LOST in each of three", x.least(), 18);
        x.price(6, 4);
        C.same("24 is too much", x.least(), -1);
        x.note(1, 0, -1, 0, 1);
        C.same("one of them has a NOTE", x.least(), 20);
    }

    // "It is of as many MOVES as THE LENGTH says (none: whatever it is)."
    private static void theLength() {
        for (int n : new int[] {-2, 31, LOWEST, HIGHEST}) {
            MoveNotes x = walkers();
            x.length(3);
            C.wrong("LENGTH " + n, Checks.of(() -> x.length(n)));
            C.same("it is as it was", x.count(5), 3);
        }
        MoveNotes x = shufflers();
        for (int n = 0; n <= 30; n++) {
            x.length(n);
            C.same("LENGTH " + n, x.count(5), n);
            C.same("MOVES of LENGTH " + n, x.read(-1), n);
            C.same("READINGS of LENGTH " + n, x.many(), 1);
        }
        x.length(-1);
        C.same("none", x.count(5), -1);
        C.same("whatever it is", x.many(), 31);
        // NOTES do not make it longer, nor does it leave any out.
        x.book(0);
        shuffle(x, 0, 0, 3);
        x.length(2);
        C.same("too short for three NOTES", x.least(), -1);
        x.length(3);
        C.same("just so", x.least(), 0);
        x.length(4);
        C.same("too long for three NOTES", x.least(), -1);
    }

    // "PICTURES (at most 10): behind so many MOVES (0 to 30) on a SQUARE a man of a KIND and SIDE, or nothing"
    private static void pictureBehind() {
        for (int n : new int[] {-1, 31, LOWEST, HIGHEST}) {
            MoveNotes x = shufflers();
            C.wrong("behind " + n + " MOVES", () -> x.picture(n, 0, 0, 0));
            C.wrong("nothing behind " + n + " MOVES", () -> x.picture(n, 0, -1, 0));
            C.same("none came", x.count(4), 0);
        }
        // Behind n MOVES SIDE 0 has made (n + 1) / 2, SIDE 1 has made n / 2.
        for (int n = 0; n <= 30; n++) {
            int zero = (n + 1) / 2 % 2;
            int one = 35 - n / 2 % 2;
            int[][] so = {{zero, 0, 0}, {1 - zero, -1, 0}, {one, 0, 1}, {69 - one, -1, 1}, {2, 1, 0}, {33, 1, 1}};
            for (int[] p : so) {
                MoveNotes x = shufflers();
                C.same("the first PICTURE", x.picture(n, p[0], p[1], p[2]), 1);
                C.same("READINGS with " + n + " MOVES or more", x.many(), 31 - n);
                C.same("FIRST", x.read(-1), n);
            }
            int[][] not = {{1 - zero, 0, 0}, {zero, -1, 0}, {one, 0, 0}, {one, 1, 1}, {2, 1, 1}, {2, -1, 0}, {20, 1, 0}};
            for (int[] p : not) {
                MoveNotes x = shufflers();
                x.picture(n, p[0], p[1], p[2]);
                C.same("barred behind " + n, x.least(), -1);
                C.same("positions", x.count(6), 21 * (n + 1));
            }
        }
    }

    // "PICTURES (at most 10)"
    private static void picturesTen() {
        MoveNotes x = shufflers();
        for (int n = 1; n <= 10; n++) {
            C.same("PICTURE " + n, x.picture(n - 1, 20, -1, 0), n);
        }
        C.full("an eleventh", () -> x.picture(0, 20, -1, 0));
        C.same("ten", x.count(4), 10);
        C.same("9 to 30 MOVES", x.many(), 22);
        // Each of the ten counts.
        for (int wrong = 0; wrong < 10; wrong++) {
            MoveNotes y = shufflers();
            for (int n = 0; n < 10; n++) {
                y.picture(5, n == wrong ? 20 : 2, n == wrong ? 0 : 1, 0);
            }
            C.same("PICTURE " + wrong + " bars", y.least(), -1);
        }
    }

    // "a READING has as many MOVES, and it is so"
    private static void asManyMoves() {
        MoveNotes x = shufflers();
        x.picture(3, 2, 1, 0);
        x.picture(7, 2, 1, 0);
        x.picture(5, 2, 1, 0);
        C.same("as many as the longest", x.read(-1), 7);
        x.length(6);
        C.same("LENGTH 6 is too short", x.least(), -1);
        x.length(7);
        C.same("LENGTH 7 is not", x.least(), 0);
        // A game that ends ahead of it.
        MoveNotes y = walkers();
        y.picture(10, 30, 0, 0);
        C.same("ten MOVES", y.read(-1), 10);
        y.picture(11, 30, 0, 0);
        C.same("there are no eleven", y.least(), -1);
    }

    // "LEAST: the least PRICE, at most 20, of which there is a READING"
    private static void leastTwenty() {
        for (int price = 0; price <= 9; price++) {
            for (int lost = 1; lost <= 10; lost++) {
                MoveNotes x = walkers();
                x.book(0);
                x.length(lost);
                x.price(6, price);
                int due = price == 0 || price * lost > 20 ? -1 : price * lost;
                C.same(lost + " LOST for " + price, x.least(), due);
                C.same("MANY", x.many(), due == -1 ? -1 : 1);
            }
        }
        // 19, 20, 21 by different SLIPS: 9 and 9, and a NOTE off by one.
        for (int file = 1; file <= 3; file++) {
            MoveNotes x = walkers();
            x.book(0);
            x.book(0);
            x.book(0);
            x.length(1);
            x.note(2, 0, -1, 1, 1);
            x.price(6, 9);
            x.price(2, file);
            C.same("18 and " + file, x.least(), file == 3 ? -1 : 18 + file);
        }
    }

    // "MANY: how many of it"
    private static void many() {
        MoveNotes x = new MoveNotes();
        C.same("nobody: START alone", x.many(), 1);
        x.book(0);
        C.same("also with a BOOK", x.many(), 1);
        Checks.kind(x, "straight 2", 1);
        x.put(0, 0, 0);
        x.note(0, 0, -1, 1, 1);
        C.same("no READING", x.many(), -1);
        x.price(2, 1);
        C.same("0 to 6, by the FILE", x.many(), 1);
        x.price(3, 1);
        C.same("and 0 to 1, by the RANK", x.many(), 2);
        x.price(3, 2);
        C.same("those of a greater PRICE do not count", x.many(), 1);
    }

    // "They are in order by their MOVES (a READING ahead of those that go on from it). FIRST: the first of these"
    private static void order() {
        MoveNotes x = walkers();
        C.same("FIRST has no MOVE", x.read(-1), 0);
        C.same("nor MOVE 0", x.read(0), -3);
        C.same("NEXT has one", x.readNext(-1), 1);
        x.picture(9, 2, -1, 0);
        C.same("FIRST has nine", x.read(-1), 9);
        C.same("NEXT has ten", x.readNext(-1), 10);
        C.same("MOVE 9 of NEXT", x.readNext(9), Checks.move(11, 5));
        MoveNotes y = new MoveNotes();
        Checks.kind(y, "straight 1", 1);
        y.put(14, 0, 0);
        y.put(1, 0, 0);
        y.length(1);
        C.same("by the SQUARE from, then by that to", y.read(0), Checks.move(1, 0));
        C.same("the second", y.readNext(0), Checks.move(1, 2));
        for (int i : new int[] {-2, LOWEST}) {
            C.wrong("MOVE " + i, () -> y.read(i));
            C.wrong("MOVE " + i + " of NEXT", () -> y.readNext(i));
        }
        C.same("no MOVE 1", y.read(1), -3);
        C.same("no MOVE 1 of NEXT", y.readNext(1), -3);
        C.same("none far off", y.read(HIGHEST), -3);
        C.same("none far off of NEXT", y.readNext(HIGHEST), -3);
    }

    // "NEXT: the second one" ("-3 also without it")
    private static void next() {
        MoveNotes x = walkers();
        x.length(10);
        C.same("MANY is 1", x.many(), 1);
        for (int i : new int[] {-1, 0, 9, 10, HIGHEST}) {
            C.same("MOVE " + i + " of NEXT", x.readNext(i), -3);
        }
        C.same("FIRST has all ten", x.read(9), Checks.move(11, 5));
        x.length(-1);
        x.picture(9, 2, -1, 0);
        C.same("MANY is 2", x.many(), 2);
        C.same("there is a NEXT", x.readNext(-1), 10);
    }

    // "each one position, START too"
    private static void positions() {
        MoveNotes x = new MoveNotes();
        C.same("START alone", x.count(6), 1);
        MoveNotes y = walkers();
        y.length(0);
        C.same("LENGTH 0", y.count(6), 1);
        y.length(1);
        C.same("LENGTH 1", y.count(6), 2);
    }

    // "for PRICES 0, 1, .. to LEAST (20 without one), one after the other, all beginnings of READINGS whose PRICE so far is
    // not above it"
    private static void oneByOne() {
        for (int price = 1; price <= 9; price++) {
            MoveNotes x = walkers();
            x.book(0);
            x.length(1);
            x.price(6, price);
            C.same("START by PRICES 0 to " + price + ", and a MOVE by the last", x.count(6), price + 1 + 1);
            x.length(3);
            // Of 3 LOST: by PRICE p there are min(3, p / price) of them.
            int due = 0;
            int last = 3 * price <= 20 ? 3 * price : 20;
            for (int p = 0; p <= last; p++) {
                due += 1 + (p / price < 3 ? p / price : 3);
            }
            C.same("three LOST for " + price, x.count(6), due);
            C.same("LEAST", x.least(), 3 * price <= 20 ? 3 * price : -1);
        }
        MoveNotes y = walkers();
        y.book(0);
        y.length(1);
        C.same("none: 0 to 20", y.count(6), 21);
    }

    // "lays out at most 8000 positions ... if there would be more in all, it is SPENT"
    private static void spent() {
        // Without a BOOK each PRICE lays out as much: 380 or 381 positions, of START and two MOVES.
        int[][][] men = {
            {{27, 2, 0}, {20, 1, 1}, {8, 2, 0}, {35, 1, 1}},
            {{25, 2, 0}, {17, 1, 1}, {27, 1, 0}, {2, 2, 1}, {16, 2, 0}}
        };
        for (int n = 0; n < 2; n++) {
            MoveNotes x = new MoveNotes();
            Checks.kind(x, "", 1);
            Checks.kind(x, "straight 5; slant 5", 1);
            Checks.kind(x, "leap", 1);
            for (int[] man : men[n]) {
                x.put(man[0], man[1], man[2]);
            }
            x.length(2);
            C.same("by one PRICE", x.count(6), 380 + n);
            x.picture(2, 0, 0, 0);
            boolean isSpent = 21 * (380 + n) > 8000;
            C.same("by 21 PRICES " + 21 * (380 + n), x.count(6), isSpent ? -2 : 7980);
            C.same("LEAST", x.least(), isSpent ? -2 : -1);
        }
        // Just 8000, and 8001, by PRICE 0.
        int[][][] more = {
            {{12, 0, 0}, {18, 1, 0}, {16, 1, 0}, {20, 0, 1}},
            {{11, 1, 0}, {35, 0, 1}, {27, 1, 0}, {29, 1, 1}, {18, 0, 0}, {6, 1, 1}}
        };
        for (int n = 0; n < 2; n++) {
            MoveNotes x = new MoveNotes();
            Checks.kind(x, "straight 5; slant 5", 1);
            Checks.kind(x, "leap", 1);
            for (int[] man : more[n]) {
                x.put(man[0], man[1], man[2]);
            }
            x.length(3);
            C.same("LEAST of " + (8000 + n), x.least(), n == 0 ? 0 : -2);
            C.same("count(6) of " + (8000 + n), x.count(6), n == 0 ? 8000 : -2);
            C.same("MANY of " + (8000 + n), x.many() == -2 ? -2 : 0, n == 0 ? 0 : -2);
            x.length(2);
            C.same("a shorter one is not SPENT", x.least(), 0);
            x.length(3);
            C.same("each question anew", x.least(), n == 0 ? 0 : -2);
        }
    }

    /** Queens, and two BOOKS of a NOTE each that are right at once; SPENT, if READINGS are long. */
    private static MoveNotes queens(int length) {
        MoveNotes x = new MoveNotes();
        Checks.kind(x, "straight 5; slant 5", 1);
        x.put(0, 0, 0);
        x.put(14, 0, 0);
        x.put(35, 0, 1);
        x.put(21, 0, 1);
        x.price(6, 1);
        x.book(0);
        x.note(0, 0, -1, 1, 0);
        x.book(0);
        x.note(1, 0, -1, 1, 0);
        x.length(length);
        return x;
    }

    // "Answers of questions about READINGS: -2, if SPENT, ahead of all else"
    private static void spentAheadOfAll() {
        MoveNotes x = queens(4);
        C.same("least", x.least(), -2);
        C.same("many", x.many(), -2);
        C.same("part", x.part(), -2);
        C.same("count(6)", x.count(6), -2);
        for (int i : new int[] {-1, 0, 3, 4, 30, HIGHEST}) {
            C.same("read " + i, x.read(i), -2);
            C.same("readNext " + i, x.readNext(i), -2);
            C.same("best " + i, x.best(i), -2);
            if (i >= 0) {
                C.same("brief " + i, x.brief(i), -2);
                for (int width = 0; width <= 2; width++) {
                    C.same("odds " + i + " above", x.odds(i, width, false), -2);
                    C.same("odds " + i + " below", x.odds(i, width, true), -2);
                }
            }
        }
        for (int slip = 1; slip <= 7; slip++) {
            C.same("slips " + slip, x.slips(0, slip), -2);
            C.same("cheaper " + slip, x.cheaper(slip), -2);
        }
        for (int book = 0; book < 2; book++) {
            C.same("slip of BOOK " + book, x.slip(book, 0), -2);
            C.same("shared", x.shared(book, 1 - book, false), -2);
            C.same("copied", x.shared(book, 1 - book, true), -2);
            C.same("way", x.way(book), -2);
        }
        // What is wrong throws all the same; what asks for no READINGS answers.
        C.wrong("read -2", () -> x.read(-2));
        C.wrong("readNext -2", () -> x.readNext(-2));
        C.wrong("best -2", () -> x.best(-2));
        C.wrong("brief -1", () -> x.brief(-1));
        C.wrong("odds -1", () -> x.odds(-1, 0, true));
        C.wrong("odds of WIDTH 3", () -> x.odds(0, 3, true));
        C.noPlace("slip of NOTE 1", () -> x.slip(0, 1));
        C.noPlace("slips 8", () -> x.slips(0, 8));
        C.noPlace("shared of BOOK 2", () -> x.shared(0, 2, true));
        C.noPlace("cheaper 8", () -> x.cheaper(8));
        C.same("ALIKE", x.alike(0, 1), 1);
        C.same("BREAKS is a question of its own", x.breaks(0), -3);
        C.same("MOVES", x.moves(0, 0), Checks.move(0, 1));
    }

    // "NONE, if there is no READING to 20"
    private static void noReading() {
        MoveNotes x = queens(4);
        x.price(6, 0);
        C.same("least", x.least(), -1);
        C.same("many", x.many(), -1);
        C.same("part", x.part(), -1);
        C.same("count(6): START and one MOVE by each PRICE", x.count(6), 21 * 2);
        for (int i : new int[] {-1, 0, 3, 4, 30, HIGHEST}) {
            C.same("read " + i, x.read(i), -1);
            C.same("readNext " + i, x.readNext(i), -1);
            C.same("best " + i, x.best(i), -1);
            if (i >= 0) {
                C.same("brief " + i, x.brief(i), -1);
                for (int width = 0; width <= 2; width++) {
                    C.same("odds " + i + " above", x.odds(i, width, false), -1);
                    C.same("odds " + i + " below", x.odds(i, width, true), -1);
                }
            }
        }
        for (int slip = 1; slip <= 7; slip++) {
            C.same("slips " + slip, x.slips(0, slip), -1);
            C.same("cheaper " + slip, x.cheaper(slip), -1);
        }
        for (int book = 0; book < 2; book++) {
            C.same("slip of BOOK " + book, x.slip(book, 0), -1);
            C.same("shared", x.shared(book, 1 - book, false), -1);
            C.same("copied", x.shared(book, 1 - book, true), -1);
            C.same("way: by neither", x.way(book), -3);
        }
        C.wrong("read -2", () -> x.read(-2));
        C.wrong("readNext -2", () -> x.readNext(-2));
        C.wrong("best -2", () -> x.best(-2));
        C.wrong("brief -1", () -> x.brief(-1));
        C.wrong("odds -1", () -> x.odds(-1, 0, true));
        C.wrong("odds of WIDTH -1", () -> x.odds(0, -1, true));
        C.noPlace("slip of NOTE 1", () -> x.slip(0, 1));
        C.noPlace("slips 0", () -> x.slips(0, 0));
    }

    // "then -3"
    private static void then() {
        MoveNotes x = queens(1);
        C.same("least", x.least(), 0);
        C.same("one READING", x.many(), 1);
        C.same("FIRST has one MOVE", x.read(-1), 1);
        C.same("part", x.part(), -3);
        for (int i : new int[] {1, 30, HIGHEST}) {
            C.same("read " + i, x.read(i), -3);
            C.same("best " + i, x.best(i), -3);
            C.same("brief " + i, x.brief(i), -3);
            C.same("odds " + i, x.odds(i, 2, false), -3);
        }
        C.same("readNext NONE", x.readNext(-1), -3);
        C.same("readNext 0", x.readNext(0), -3);
        C.same("breaks", x.breaks(0), -3);
        C.same("way: both alike", x.way(0), -3);
    }

    // "PRICE so far: of each BOOK the least of all, however many of its first NOTES are of the MOVES so far, or TWICE"
    private static void priceSoFar() {
        // One MOVE, and a NOTE that FITS by the FILE for 2: so far it is LOST for 1, or has the NOTE for 2.
        MoveNotes x = walkers();
        x.book(0);
        x.length(1);
        x.note(0, 0, -1, 1, 1);
        x.price(2, 2);
        x.price(6, 1);
        // By 0 START; by 1 and 2 the MOVE too, which is a READING by 2.
        C.same("the lesser of both ways", x.count(6), 1 + 2 + 2);
        C.same("LEAST", x.least(), 2);
        // Of each BOOK its own least, together: 1 in one, 1 in the other.
        x.book(0);
        x.note(1, 0, -1, 1, 1);
        C.same("of both BOOKS", x.count(6), 1 + 1 + 2 + 2 + 2);
        C.same("LEAST of both", x.least(), 4);
        // A NOTE that is TWICE costs nothing so far, as it need not be of the MOVES so far.
        MoveNotes y = walkers();
        y.book(0);
        y.note(0, 0, -1, 0, 1);
        y.note(0, 0, -1, 0, 1);
        y.price(7, 3);
        C.same("the MOVE by PRICES 0 to 3", y.count(6), 4 * 2);
        C.same("LEAST with TWICE", y.least(), 3);
        // And may be paid, if the MOVES go on.
        y.note(0, 0, -1, 5, 4);
        C.same("the second MOVE just by 3", y.count(6), 3 * 2 + 3);
    }

    // "A beginning that some PICTURE behind just as many MOVES bars is laid out, but not gone on from, and no READING"
    private static void barred() {
        for (int n = 0; n <= 10; n++) {
            MoveNotes x = walkers();
            x.picture(n, 20, 0, 0);
            C.same("barred behind " + n, x.least(), -1);
            C.same("laid out by each PRICE", x.count(6), 21 * (n + 1));
        }
        // One of two MOVES is barred, the other goes on.
        MoveNotes y = new MoveNotes();
        Checks.kind(y, "straight 1", 1);
        y.put(0, 0, 0);
        y.put(35, 0, 1);
        y.length(2);
        y.picture(1, 1, -1, 0);
        C.same("two READINGS", y.many(), 2);
        C.same("to 6", y.read(0), Checks.move(0, 6));
        C.same("START, two, and two behind one of these", y.count(6), 1 + 2 + 2);
    }

    // "one that has 30 MOVES, or as many as THE LENGTH says, is not gone on from"
    private static void notGoneOnFrom() {
        MoveNotes x = shufflers();
        for (int n = 0; n <= 30; n++) {
            x.length(n);
            C.same("positions of LENGTH " + n, x.count(6), n + 1);
        }
        x.length(-1);
        C.same("of 30 MOVES", x.count(6), 31);
        x.picture(30, 20, 0, 0);
        C.same("of 30 MOVES by each PRICE", x.count(6), 21 * 31);
    }

    // "SLIPS of FIRST: of each NOTE: 0 to 5, or 7."
    private static void slipsOfNotes() {
        MoveNotes x = walkers();
        Checks.kind(x, "", 1);
        x.book(0);
        // m0 as it is; KIND; FILE; RANK; SIDE of RANK 3, for 2; FILE from; and TWICE.
        x.note(0, 0, 0, 0, 1);
        x.note(0, 1, -1, 5, 4);
        x.note(0, 0, -1, 1, 2);
        x.note(0, 0, -1, 5, 4);
        x.note(0, 0, -1, 0, 2);
        x.note(0, 0, 0, 5, 2);
        x.note(0, 0, 0, 5, 2);
        int[] prices = {0, 1, 1, 2, 1, 1, 0, 1};
        for (int slip = 1; slip <= 7; slip++) {
            x.price(slip, prices[slip]);
        }
        int[] due = {0, 1, 2, 3, 4, 5, 7};
        C.same("LEAST", x.least(), 1 + 1 + 2 + 1 + 1 + 1);
        for (int n = 0; n < due.length; n++) {
            C.same("SLIP of NOTE " + n, x.slip(0, n), due[n]);
        }
        for (int slip = 1; slip <= 7; slip++) {
            C.same("how many of " + slip, x.slips(0, slip), slip == 6 ? 0 : 1);
        }
        x.length(8);
        x.price(6, 1);
        C.same("two LOST behind", x.slips(0, 6), 2);
        C.same("LEAST of these", x.least(), 9);
    }

    // "from the end back, a NOTE of the last MOVE ahead of a LOST MOVE, that ahead of a NOTE that is TWICE"
    private static void severalWays() {
        // Two MOVES, to FILE 0, RANK 1 and to FILE 1, RANK 2; NOTES of FILE 1, RANK 1 are off by one with both.
        MoveNotes x = new MoveNotes();
        Checks.kind(x, "ahead 1", 1);
        x.put(0, 0, 0);
        x.put(19, 0, 1);
        x.length(2);
        x.book(0);
        x.note(0, 0, -1, 1, 1);
        for (int slip = 2; slip <= 3; slip++) {
            x.price(slip, 4);
        }
        x.price(6, 4);
        C.same("one NOTE, one LOST", x.least(), 8);
        C.same("a NOTE of the last MOVE", x.slip(0, 0), 3);
        x.note(0, 0, -1, 1, 1);
        x.price(7, 1);
        // Both of a MOVE: 8. One LOST, one TWICE: 4 and 4 and 1.
        C.same("both have a MOVE", x.least(), 8);
        x.price(6, 3);
        C.same("as much as LOST and TWICE", x.least(), 8);
        C.same("a NOTE of the last MOVE: none is TWICE", x.slip(0, 1), 3);
        C.same("nor the first", x.slip(0, 0), 2);
        x.price(6, 2);
        C.same("LOST and TWICE are less", x.least(), 7);
        C.same("the last NOTE is TWICE", x.slip(0, 1), 7);
        // The last MOVE is LOST, as that stands ahead of a NOTE that is TWICE; so the first NOTE is of the first MOVE.
        C.same("the first NOTE is of the first MOVE", x.slip(0, 0), 2);
        C.same("one LOST", x.slips(0, 6), 1);
        C.same("one TWICE", x.slips(0, 7), 1);
    }
}
