import java.util.TreeSet;

/**
 * The edges that part 1 of the document's Terms names: THE BOARD, KINDS, MOVES, BOOKS, NOTES, SLIPS, PRICES. One method a
 * sentence; the sentence stands ahead of it.
 */
public final class EdgesBoardTest {
    private static final Checks C = new Checks("EdgesBoardTest");
    private static final int LOWEST = Integer.MIN_VALUE;
    private static final int HIGHEST = Integer.MAX_VALUE;

    public static void main(String[] args) {
        squares();
        stepsAtTheEdges();
        leapsAtTheEdges();
        sides();
        ahead();
        kinds();
        values();
        lines();
        numbers();
        startAtFirst();
        wayIsClosed();
        aheadIsEmpty();
        leapOverAll();
        biteTakes();
        movesInOrder();
        turns();
        books();
        ways();
        notes();
        noteCells();
        slipZero();
        slipKind();
        slipFile();
        slipRank();
        slipSide();
        slipFrom();
        slipsOfAll();
        prices();
        priceOfZero();
        twice();
        severalSlips();
        C.end();
    }

    private static MoveNotes with(String... texts) {
        MoveNotes x = new MoveNotes();
        for (String text : texts) {
            Checks.kind(x, text, 1);
        }
        return x;
    }

    private static String targets(MoveNotes x, int side) {
        StringBuilder s = new StringBuilder();
        for (int i = 0; i < x.moves(side, -1); i++) {
            s.append(i == 0 ? "" : " ").append(x.moves(side, i) % 36);
        }
        return s.toString();
    }

    // "SQUARES 0 to 35"
    private static void squares() {
        MoveNotes x = with("leap");
        for (int square : new int[] {-1, 36, 37, LOWEST, HIGHEST}) {
            C.noPlace("put on " + square, Checks.of(() -> x.put(square, 0, 0)));
            C.noPlace("nothing on " + square, Checks.of(() -> x.put(square, -1, 0)));
            C.noPlace("a PICTURE of " + square, () -> x.picture(0, square, 0, 0));
            C.noPlace("a PICTURE of nothing on " + square, () -> x.picture(0, square, -1, 0));
        }
        C.same("nobody is there", x.count(1), 0);
        C.same("no PICTURE is", x.count(4), 0);
        for (int square = 0; square < 36; square++) {
            x.put(square, 0, square % 2);
        }
        C.same("all are", x.count(1), 36);
        C.same("a PICTURE of the first", x.picture(0, 0, 0, 0), 1);
        C.same("a PICTURE of the last", x.picture(0, 35, 0, 1), 2);
        x.length(0);
        C.same("both are so", x.many(), 1);
    }

    /** Where all steps of a sort lead from a SQUARE, by FILE and RANK. */
    private static String steps(int from, int[][] steps) {
        TreeSet<Integer> found = new TreeSet<>();
        for (int[] step : steps) {
            int rank = from / 6 + step[0];
            int file = from % 6 + step[1];
            if (rank >= 0 && rank <= 5 && file >= 0 && file <= 5) {
                found.add(6 * rank + file);
            }
        }
        return found.toString().replaceAll("[\\[\\],]", "");
    }

    private static void stepsFromAll(String text, int side, boolean isAmongOthers, int[][] steps) {
        for (int from = 0; from < 36; from++) {
            MoveNotes x = with(text, "");
            for (int square = 0; square < 36 && isAmongOthers; square++) {
                x.put(square, 1, 1 - side);
            }
            x.put(from, 0, side);
            C.text(text + " of SIDE " + side + " from " + from, targets(x, side), steps(from, steps));
        }
    }

    // "number 6 RANK and FILE (0 to 5 each)": nobody goes round an edge of THE BOARD
    private static void stepsAtTheEdges() {
        int[][] straight = {{1, 0}, {-1, 0}, {0, 1}, {0, -1}};
        int[][] slant = {{1, 1}, {1, -1}, {-1, 1}, {-1, -1}};
        int[][] far = new int[20][];
        int[][] farSlant = new int[20][];
        for (int n = 0; n < 20; n++) {
            int by = n / 4 + 1;
            far[n] = new int[] {straight[n % 4][0] * by, straight[n % 4][1] * by};
            farSlant[n] = new int[] {slant[n % 4][0] * by, slant[n % 4][1] * by};
        }
        for (int side = 0; side < 2; side++) {
            stepsFromAll("straight 1", side, false, straight);
            stepsFromAll("straight 1", side, true, straight);
            stepsFromAll("straight 5", side, false, far);
            stepsFromAll("straight 5", side, true, straight);
            stepsFromAll("slant 1", side, false, slant);
            stepsFromAll("slant 5", side, false, farSlant);
            stepsFromAll("slant 5", side, true, slant);
        }
    }

    // "leap: to a SQUARE 1 and 2 (or 2 and 1) off"; "bite: one SQUARE slant ahead"
    private static void leapsAtTheEdges() {
        int[][] leap = {{1, 2}, {1, -2}, {-1, 2}, {-1, -2}, {2, 1}, {2, -1}, {-2, 1}, {-2, -1}};
        for (int side = 0; side < 2; side++) {
            int on = side == 0 ? 1 : -1;
            stepsFromAll("leap", side, false, leap);
            stepsFromAll("leap", side, true, leap);
            stepsFromAll("bite", side, true, new int[][] {{on, 1}, {on, -1}});
            stepsFromAll("bite", side, false, new int[0][]);
            stepsFromAll("ahead 1", side, false, new int[][] {{on, 0}});
            stepsFromAll("ahead 1", side, true, new int[0][]);
        }
    }

    // "SIDES 0 and 1"
    private static void sides() {
        MoveNotes x = with("straight 1");
        for (int side : new int[] {-1, 2, LOWEST, HIGHEST}) {
            C.wrong("put of SIDE " + side, Checks.of(() -> x.put(0, 0, side)));
            C.wrong("MOVES of SIDE " + side, () -> x.moves(side, -1));
            C.wrong("MOVE 0 of SIDE " + side, () -> x.moves(side, 0));
            C.wrong("a PICTURE of SIDE " + side, () -> x.picture(0, 0, 0, side));
        }
        C.same("nobody is there", x.count(1), 0);
        x.put(0, 0, 0);
        C.same("who is of SIDE 0", x.moves(0, -1), 2);
        C.same("is not of SIDE 1", x.moves(1, -1), 0);
        x.put(0, 0, 1);
        C.same("who is of SIDE 1", x.moves(1, -1), 2);
        C.same("is not of SIDE 0", x.moves(0, -1), 0);
    }

    // "AHEAD is to greater RANKS for SIDE 0, to lesser ones for SIDE 1"
    private static void ahead() {
        for (int file = 0; file < 6; file++) {
            MoveNotes x = with("ahead 5");
            x.put(file, 0, 0);
            x.put(30 + file, 0, 1);
            C.same("four are empty between", x.moves(0, -1), 4);
            C.same("the first", x.moves(0, 0), Checks.move(file, file + 6));
            C.same("four for SIDE 1", x.moves(1, -1), 4);
            C.same("its last", x.moves(1, 3), Checks.move(30 + file, 24 + file));
            x.put(30 + file, 0, 0);
            x.put(file, 0, 1);
            C.same("SIDE 0 at the end of FILE " + file, x.moves(0, -1), 0);
            C.same("SIDE 1 at the end of FILE " + file, x.moves(1, -1), 0);
        }
    }

    // "KINDS (at most 5, numbered from 0 on)"
    private static void kinds() {
        MoveNotes x = new MoveNotes();
        for (int n = 0; n < 5; n++) {
            int behind = n;
            C.noPlace("KIND " + n + " is none yet", Checks.of(() -> x.put(0, behind, 0)));
            C.same("KIND " + n, Checks.kind(x, "bite", n), n);
            x.put(n, n, 0);
        }
        Checks.feed(x, "bite");
        C.full("a sixth", () -> x.kind(0));
        C.noPlace("KIND 5", Checks.of(() -> x.put(0, 5, 0)));
        C.noPlace("KIND -2", Checks.of(() -> x.put(0, -2, 0)));
        C.noPlace("KIND of the least int", Checks.of(() -> x.put(0, LOWEST, 0)));
        C.noPlace("KIND of the greatest int", Checks.of(() -> x.put(0, HIGHEST, 0)));
        C.same("five", x.count(0), 5);
        C.same("five men", x.count(1), 5);
        C.same("each of his VALUE", x.count(7), 0 + 1 + 2 + 3 + 4);
    }

    // "a VALUE (0 to 20)"
    private static void values() {
        for (int value : new int[] {-1, 21, LOWEST, HIGHEST}) {
            MoveNotes x = new MoveNotes();
            Checks.feed(x, "bite");
            C.wrong("VALUE " + value, () -> x.kind(value));
            C.same("no KIND", x.count(0), 0);
        }
        for (int value : new int[] {0, 1, 19, 20}) {
            MoveNotes x = new MoveNotes();
            C.same("VALUE " + value, Checks.kind(x, "bite", value), 0);
            x.put(35, 0, 1);
            C.same("it is " + value, x.count(7), value);
        }
    }

    // "LINE { ; LINE }, at most 6"
    private static void lines() {
        String[] six = {"ahead 1", "ahead 2", "ahead 3", "straight 1", "slant 1", "leap"};
        StringBuilder text = new StringBuilder();
        int[] due = {1, 2, 3, 6, 10, 16};
        for (int n = 0; n < 6; n++) {
            text.append(n == 0 ? "" : ";").append(six[n]);
            MoveNotes x = with(text.toString());
            x.put(14, 0, 0);
            // Of the LINES so far each has a part: 20, 26, 32; 8 13 15; 7 9 19 21; eight leaps, 1 3 6 10 18 22 25 27.
            C.same("MOVES by " + (n + 1) + " LINES", x.moves(0, -1), n == 5 ? 10 + 8 : due[n]);
        }
        C.same("six are right", Checks.faultOfKind(text.toString()), -1);
        C.same("of a seventh the first word", Checks.faultOfKind(text + "; bite"), text.length() + 2);
        C.same("a seventh that is none", Checks.faultOfKind(text + ";5"), text.length() + 1);
        C.same("a seventh that does not come", Checks.faultOfKind(text + ";"), text.length() + 1);
    }

    // "NUMBER: 1 to 5"
    private static void numbers() {
        for (String word : new String[] {"straight", "slant", "ahead"}) {
            for (int n : new int[] {0, 6, 7, 9, 10, 99, 100, 999, 1000}) {
                C.same(word + " " + n, Checks.faultOfKind(word + " " + n), word.length() + 1);
            }
            C.same(word + " -1", Checks.faultOfKind(word + " -1"), word.length() + 1);
            C.same(word + " without one", Checks.faultOfKind(word), word.length());
            for (int n = 1; n <= 5; n++) {
                C.same(word + " " + n, Checks.faultOfKind(word + " " + n), -1);
                MoveNotes x = with(word + " " + n);
                x.put(0, 0, 0);
                C.same(word + " " + n + " from a corner", x.moves(0, -1), word.equals("straight") ? 2 * n : n);
            }
        }
        C.same("leap has none", Checks.faultOfKind("leap 1"), 5);
        C.same("bite has none", Checks.faultOfKind("bite 1"), 5);
    }

    // "START: a man of a KIND and SIDE on a SQUARE, or nothing (nothing at first)"
    private static void startAtFirst() {
        MoveNotes x = new MoveNotes();
        C.same("nobody", x.count(1), 0);
        C.same("of no VALUE", x.count(7), 0);
        Checks.kind(x, "straight 5", 3);
        C.same("nobody goes", x.moves(0, -1) + x.moves(1, -1), 0);
        for (int square = 0; square < 36; square++) {
            x.picture(0, square, -1, square % 2);
            C.same("nothing on " + square, x.many(), 1);
            if (square % 9 == 8) {
                x = new MoveNotes();
                Checks.kind(x, "straight 5", 3);
            }
        }
    }

    // "as far as these are empty, and one with a man of the other SIDE, who is TAKEN, is the last"
    private static void wayIsClosed() {
        int[][] cases = {{1, 0, 1}, {1, 1, 1}, {2, 0, 1}, {2, 1, 2}, {3, 0, 2}, {3, 1, 3}, {4, 0, 3}, {4, 1, 3}};
        for (int[] c : cases) {
            for (int by : new int[] {1, 6}) {
                MoveNotes x = with("straight 3", "");
                x.put(0, 0, 0);
                x.put(by == 1 ? 6 : 1, 1, 0);
                x.put(by * c[0], 1, c[1]);
                int due = c[0] == 1 && c[1] == 0 ? 0 : c[2];
                C.same("straight 3, " + c[0] + " off one of SIDE " + c[1], x.moves(0, -1), due);
            }
            MoveNotes y = with("slant 3", "");
            y.put(35, 0, 1);
            y.put(35 - 7 * c[0], 1, 1 - c[1]);
            C.same("slant 3, " + c[0] + " off one of SIDE " + (1 - c[1]), y.moves(1, -1), c[0] == 1 && c[1] == 0 ? 0 : c[2]);
        }
        // Who is TAKEN is gone: the other SIDE has just him, so the game ends.
        MoveNotes z = with("straight 5");
        z.put(0, 0, 0);
        z.put(5, 0, 1);
        z.length(2);
        C.same("ten MOVES, by nine of which he is still there", z.moves(0, -1), 6 + 4);
        z.book(0);
        z.note(0, 0, -1, 5, 0);
        z.price(6, 1);
        C.same("TAKEN, he makes no MOVE", z.least(), -1);
        z.change(0, 0, 0, -1, 4, 0);
        C.same("not TAKEN, he does", z.least(), 1);
    }

    // "ahead: up to so many SQUARES ahead that are empty"
    private static void aheadIsEmpty() {
        for (int off = 1; off <= 5; off++) {
            for (int side = 0; side < 2; side++) {
                MoveNotes x = with("ahead 4", "");
                x.put(1, 0, 0);
                x.put(1 + 6 * off, 1, side);
                C.same("one of SIDE " + side + " " + off + " ahead", x.moves(0, -1), off - 1);
            }
        }
    }

    // "leap: ... whatever is between, empty or to TAKE"
    private static void leapOverAll() {
        MoveNotes x = with("leap", "");
        for (int square = 0; square < 36; square++) {
            x.put(square, 1, 0);
        }
        x.put(14, 0, 0);
        C.same("own men everywhere", x.moves(0, -1), 0);
        x.put(1, -1, 0);
        x.put(27, 1, 1);
        C.text("one empty, one to TAKE", targets(x, 0), "1 27");
    }

    // "bite: one SQUARE slant ahead, just to TAKE"
    private static void biteTakes() {
        MoveNotes x = with("bite", "");
        x.put(14, 0, 0);
        x.put(28, 1, 1);
        C.same("two SQUARES off", x.moves(0, -1), 0);
        x.put(21, 1, 0);
        C.same("an own man", x.moves(0, -1), 0);
        x.put(21, 1, 1);
        C.text("another one", targets(x, 0), "21");
        x.put(7, 1, 1);
        x.put(9, 1, 1);
        C.text("not behind", targets(x, 0), "21");
    }

    // "all of a SIDE in order by these numbers, each once"
    private static void movesInOrder() {
        MoveNotes x = with("straight 5; straight 1; slant 5; slant 5; leap; leap");
        x.put(35, 0, 0);
        x.put(0, 0, 0);
        x.put(14, 0, 1);
        int many = x.moves(0, -1);
        // 35: 29 23 17 11 5, 34 33 32 31 30, 28 21 14, 22 27; 0: likewise 7 14, 8 13.
        C.same("how many", many, 5 + 5 + 3 + 2 + 5 + 5 + 2 + 2);
        C.same("the first", x.moves(0, 0), Checks.move(0, 1));
        C.same("the last", x.moves(0, many - 1), Checks.move(35, 34));
        for (int i = 1; i < many; i++) {
            C.isTrue("MOVE " + i + " is behind the one before", x.moves(0, i) > x.moves(0, i - 1));
        }
        C.same("none behind the last", x.moves(0, many), -1);
        C.same("nor far off", x.moves(0, HIGHEST), -1);
        C.wrong("i below NONE", () -> x.moves(0, -2));
        C.wrong("i far below", () -> x.moves(1, LOWEST));
        MoveNotes y = with("straight 1");
        C.same("of nobody how many", y.moves(1, -1), 0);
        C.same("of nobody the first", y.moves(1, 0), -1);
    }

    // "SIDE 0 has the first MOVE of a game, then they go by turns"
    private static void turns() {
        MoveNotes x = with("straight 1");
        x.put(14, 0, 1);
        C.same("without SIDE 0 there is START alone", x.many(), 1);
        x.length(1);
        C.same("and no MOVE", x.least(), -1);
        x.put(14, 0, 0);
        C.same("SIDE 0 has one", x.many(), 4);
        x.length(2);
        C.same("without SIDE 1 there is no second", x.least(), -1);
        x.put(35, 0, 1);
        C.same("each in its turn", x.many(), 4 * 2);
        C.same("SIDE 1 second", x.read(1), Checks.move(35, 29));
        x.length(3);
        C.same("SIDE 0 third", x.read(2), Checks.move(8, 2));
    }

    // "BOOKS (at most 3, numbered from 0 on)"
    private static void books() {
        MoveNotes x = with("straight 1");
        for (int n = 0; n < 3; n++) {
            int behind = n;
            C.noPlace("BOOK " + n + " is none yet", () -> x.note(behind, 0, -1, 0, 0));
            C.same("BOOK " + n, n == 1 ? x.write(0, 1, 0, 0) : x.book(0), n);
            C.same("has a NOTE", x.note(n, 0, -1, 0, 0), 0);
        }
        C.full("a fourth", () -> x.book(0));
        C.full("a fourth that is WRITTEN", () -> x.write(0, 1, 0, 0));
        for (int book : new int[] {-1, 3, LOWEST, HIGHEST}) {
            C.noPlace("note of BOOK " + book, () -> x.note(book, 0, -1, 0, 0));
            C.noPlace("change of BOOK " + book, () -> x.change(book, 0, 0, -1, 0, 0) ? 1 : 0);
            C.noPlace("look at BOOK " + book, () -> x.look(book, 0, 0));
            C.noPlace("slip of BOOK " + book, () -> x.slip(book, 0));
            C.noPlace("slips of BOOK " + book, () -> x.slips(book, 1));
            C.noPlace("breaks of BOOK " + book, () -> x.breaks(book));
            C.noPlace("shared of BOOK " + book, () -> x.shared(book, 0, false));
            C.noPlace("shared with BOOK " + book, () -> x.shared(0, book, true));
            C.noPlace("alike of BOOK " + book, () -> x.alike(book, 0));
            C.noPlace("alike with BOOK " + book, () -> x.alike(0, book));
            C.noPlace("way of BOOK " + book, () -> x.way(book));
        }
        C.same("three", x.count(2), 3);
        C.same("three NOTES", x.count(3), 3);
    }

    // "a WAY: 0: RANKS as they are; 1: counted from the side of who moves (for SIDE 1: 5 less the RANK)"
    private static void ways() {
        for (int way : new int[] {-1, 2, LOWEST, HIGHEST}) {
            MoveNotes x = new MoveNotes();
            C.wrong("WAY " + way, () -> x.book(way));
            C.wrong("WRITTEN by WAY " + way, () -> x.write(way, 1, 0, 0));
            C.same("no BOOK", x.count(2), 0);
        }
        for (int rank = 0; rank < 6; rank++) {
            for (int side = 0; side < 2; side++) {
                // He goes along his RANK, the other SIDE has one of one MOVE.
                MoveNotes x = with("straight 1", "ahead 1");
                int from = 6 * rank + (side == 0 ? 0 : 2);
                x.put(from, 0, side);
                x.put(side == 0 ? 35 : 5, 1, 1 - side);
                x.length(side + 1);
                for (int way = 0; way < 2; way++) {
                    x.book(way);
                    if (side == 1) {
                        x.note(way, 1, -1, 5, 1);
                    }
                    x.note(way, 0, -1, from % 6 + 1, side == 1 && way == 1 ? 5 - rank : rank);
                }
                C.same("RANK " + rank + " for SIDE " + side, x.least(), 0);
                C.same("along it", x.read(side), Checks.move(from, from + 1));
            }
        }
    }

    // "NOTES of a BOOK (at most 24, numbered from 0 on)"
    private static void notes() {
        MoveNotes x = with("straight 1");
        x.book(0);
        x.book(1);
        for (int n = 0; n < 24; n++) {
            int behind = n;
            C.noPlace("NOTE " + n + " is none yet", () -> x.look(0, behind, 0));
            C.noPlace("it cannot be set otherwise", () -> x.change(0, behind, 0, -1, 0, 0) ? 1 : 0);
            C.noPlace("it has no SLIP", () -> x.slip(0, behind));
            C.same("NOTE " + n, x.note(0, 0, -1, n % 6, n / 6), n);
        }
        C.full("a 25th", () -> x.note(0, 0, -1, 0, 0));
        for (int n = 0; n < 24; n++) {
            C.same("FILE of " + n, x.look(0, n, 2), n % 6);
            C.same("RANK of " + n, x.look(0, n, 3), n / 6);
        }
        for (int n : new int[] {-1, 24, LOWEST, HIGHEST}) {
            C.noPlace("look at NOTE " + n, () -> x.look(0, n, 0));
            C.noPlace("change of NOTE " + n, () -> x.change(0, n, 0, -1, 0, 0) ? 1 : 0);
            C.noPlace("slip of NOTE " + n, () -> x.slip(0, n));
        }
        C.same("24", x.count(3), 24);
        C.same("the next BOOK begins from 0", x.note(1, 0, -1, 0, 0), 0);
        C.same("and has just that", x.count(3), 25);
    }

    // "KIND, FILE from (0 to 5, or none), FILE to, RANK to"
    private static void noteCells() {
        MoveNotes x = with("straight 1", "leap");
        x.book(0);
        for (int n = -1; n <= 5; n++) {
            C.same("FILE from " + n, x.note(0, 0, n, 0, 5), n + 1);
            C.same("it is so", x.look(0, n + 1, 1), n);
        }
        for (int n : new int[] {-2, 6, LOWEST, HIGHEST}) {
            C.wrong("FILE from " + n, () -> x.note(0, 0, n, 0, 0));
            C.wrong("changed to FILE from " + n, () -> x.change(0, 0, 0, n, 0, 0) ? 1 : 0);
        }
        for (int n : new int[] {-1, 6, LOWEST, HIGHEST}) {
            C.wrong("FILE to " + n, () -> x.note(0, 0, -1, n, 0));
            C.wrong("RANK to " + n, () -> x.note(0, 0, -1, 0, n));
            C.wrong("changed to FILE " + n, () -> x.change(0, 0, 0, -1, n, 0) ? 1 : 0);
            C.wrong("changed to RANK " + n, () -> x.change(0, 0, 0, -1, 0, n) ? 1 : 0);
        }
        for (int n : new int[] {-1, 2, LOWEST, HIGHEST}) {
            C.noPlace("KIND " + n, () -> x.note(0, n, -1, 0, 0));
            C.noPlace("changed to KIND " + n, () -> x.change(0, 0, n, -1, 0, 0) ? 1 : 0);
        }
        C.same("seven NOTES", x.count(3), 7);
        C.same("the first is as it was", x.look(0, 0, 3), 5);
        for (int what : new int[] {-1, 4, LOWEST, HIGHEST}) {
            C.text("what " + what, Checks.outcome(() -> x.look(0, 0, what)), "NoSuchElementException");
        }
    }

    /** LEAST, where one MOVE of one man is told by a NOTE: KIND, FILE from, FILE to, RANK to; all SLIPS at their number. */
    private static int slipOf(int from, int to, int kind, int fromFile, int file, int rank) {
        MoveNotes x = with("straight 5; slant 5; leap", "straight 5; slant 5; leap");
        x.put(from, 0, 0);
        x.length(1);
        x.picture(1, to, 0, 0);
        x.book(0);
        x.note(0, kind, fromFile, file, rank);
        for (int slip = 1; slip <= 5; slip++) {
            x.price(slip, slip);
        }
        C.same("its SLIP is that of its PRICE", x.slip(0, 0), x.least());
        return x.least();
    }

    // "0: all is so (KIND; FILE from, if there is one; FILE to; RANK to)"
    private static void slipZero() {
        C.same("without FILE from", slipOf(14, 20, 0, -1, 2, 3), 0);
        C.same("with FILE from", slipOf(14, 20, 0, 2, 2, 3), 0);
        C.same("in a corner", slipOf(5, 0, 0, 5, 0, 0), 0);
        C.same("in the other", slipOf(30, 35, 0, 0, 5, 5), 0);
    }

    // "1 KIND: just that is another one"
    private static void slipKind() {
        C.same("KIND", slipOf(14, 20, 1, -1, 2, 3), 1);
        C.same("KIND, and FILE from is so", slipOf(14, 20, 1, 2, 2, 3), 1);
        C.same("KIND and FILE from", slipOf(14, 20, 1, 3, 2, 3), -1);
        C.same("KIND and FILE to", slipOf(14, 20, 1, -1, 3, 3), -1);
        C.same("KIND and RANK", slipOf(14, 20, 1, -1, 2, 4), -1);
        C.same("KIND and SIDE", slipOf(14, 20, 1, -1, 2, 2), -1);
    }

    // "2 FILE to: just that is off by 1"
    private static void slipFile() {
        for (int to = 0; to < 6; to++) {
            for (int file = 0; file < 6; file++) {
                int due = to == file ? 0 : to - file == 1 || file - to == 1 ? 2 : -1;
                C.same("to FILE " + to + ", noted " + file, slipOf(to + 6, to, 0, -1, file, 0), due);
            }
        }
        C.same("FILE to, and FILE from is so", slipOf(14, 20, 0, 2, 3, 3), 2);
        C.same("FILE to and FILE from", slipOf(14, 20, 0, 3, 3, 3), -1);
        C.same("FILE to and RANK", slipOf(14, 20, 0, -1, 3, 4), -1);
        C.same("FILE to and SIDE", slipOf(14, 20, 0, -1, 3, 2), -1);
    }

    // "3 RANK: just that is off by 1"
    private static void slipRank() {
        for (int to = 0; to < 6; to++) {
            for (int rank = 0; rank < 6; rank++) {
                int due = to == rank ? 0 : to - rank == 1 || rank - to == 1 ? 3 : to + rank == 5 ? 4 : -1;
                C.same("to RANK " + to + ", noted " + rank, slipOf(6 * to + 1, 6 * to, 0, -1, 0, rank), due);
            }
        }
        C.same("RANK, and FILE from is so", slipOf(14, 20, 0, 2, 2, 4), 3);
        C.same("RANK and FILE from", slipOf(14, 20, 0, 3, 2, 4), -1);
    }

    // "4 SIDE: just RANK is otherwise, and 5 less it is so"
    private static void slipSide() {
        C.same("RANK 0 for 5", slipOf(1, 31, 0, -1, 1, 0), 4);
        C.same("RANK 5 for 0", slipOf(31, 1, 0, -1, 1, 5), 4);
        C.same("RANK 1 for 4", slipOf(1, 25, 0, -1, 1, 1), 4);
        C.same("SIDE, and FILE from is so", slipOf(1, 25, 0, 1, 1, 1), 4);
        C.same("SIDE and FILE from", slipOf(1, 25, 0, 2, 1, 1), -1);
        C.same("SIDE and FILE to", slipOf(1, 25, 0, -1, 2, 1), -1);
        C.same("SIDE and KIND", slipOf(1, 25, 1, -1, 1, 1), -1);
    }

    // "5 FILE from: just that is another one"
    private static void slipFrom() {
        for (int file = 0; file < 6; file++) {
            C.same("from FILE 2, noted " + file, slipOf(14, 20, 0, file, 2, 3), file == 2 ? 0 : 5);
        }
        C.same("FILE from and FILE to", slipOf(14, 20, 0, 0, 1, 3), -1);
        C.same("FILE from and RANK", slipOf(14, 20, 0, 0, 2, 4), -1);
        C.same("FILE from and KIND", slipOf(14, 20, 1, 0, 2, 3), -1);
    }

    /** The SLIP with which a NOTE FITS a MOVE, by the words of the document; -1 without. RANK 2 and 3: the lesser number. */
    private static int fits(int kind, int[] note, int from, int to, boolean isTurned) {
        int rank = isTurned ? 5 - to / 6 : to / 6;
        boolean[] so = {note[0] == kind, note[2] == to % 6, note[3] == rank, note[1] == -1 || note[1] == from % 6};
        int wrong = 0;
        for (boolean is : so) {
            wrong += is ? 0 : 1;
        }
        if (wrong != 1) {
            return wrong == 0 ? 0 : -1;
        }
        if (!so[0]) {
            return 1;
        }
        if (!so[1]) {
            return Math.abs(note[2] - to % 6) == 1 ? 2 : -1;
        }
        if (!so[2]) {
            return Math.abs(note[3] - rank) == 1 ? 3 : 5 - note[3] == rank ? 4 : -1;
        }
        return 5;
    }

    // "A NOTE FITS a MOVE with a SLIP": for both SIDES and WAYS, and whether MOVES may be LOST or not
    private static void slipsOfAll() {
        int[][] moves = {{14, 20}, {0, 30}, {35, 5}, {21, 18}};
        for (int[] move : moves) {
            for (int n = 0; n < 16; n++) {
                int side = n & 1;
                int way = n >> 1 & 1;
                int kind = n >> 2 & 1;
                MoveNotes x = with("straight 5", "straight 5", "ahead 1");
                x.put(move[0], kind, side);
                x.put(side == 0 ? 33 : 3, 2, 1 - side);
                x.length(side + 1);
                x.picture(side + 1, move[1], kind, side);
                x.book(way);
                if (side == 1) {
                    x.note(0, 2, -1, 3, 1);
                }
                x.note(0, 0, -1, 0, 0);
                for (int slip = 1; slip <= 6; slip++) {
                    x.price(slip, slip < 6 ? slip : n >> 3);
                }
                for (int cell = 0; cell < 2 * 3 * 36; cell++) {
                    int from = cell / 72 == 0 ? -1 : (move[0] % 6 + cell / 72 - 1) % 6;
                    int[] note = {cell % 2, from, cell / 2 % 6, cell / 12 % 6};
                    x.change(0, side, note[0], note[1], note[2], note[3]);
                    int due = fits(kind, note, move[0], move[1], side == 1 && way == 1);
                    String what = "KIND " + kind + " of SIDE " + side + " to " + move[1] + ", WAY " + way + ", NOTE " + note[0]
                            + " " + note[1] + " " + note[2] + " " + note[3];
                    C.same("LEAST of " + what, x.least(), due);
                    C.same("SLIP of " + what, x.slip(0, side), due);
                }
            }
        }
    }

    // "PRICES (0 to 9) of 1 to 5, and of 6 LOST ... 7 TWICE"; "(All 0 at first.)"
    private static void prices() {
        MoveNotes x = new MoveNotes();
        for (int slip : new int[] {0, -1, 8, LOWEST, HIGHEST}) {
            C.noPlace("PRICE of SLIP " + slip, () -> x.price(slip, 1));
            C.noPlace("CHEAPER of SLIP " + slip, () -> x.cheaper(slip));
        }
        for (int slip = 1; slip <= 7; slip++) {
            int which = slip;
            for (int n : new int[] {-1, 10, LOWEST, HIGHEST}) {
                C.wrong("PRICE " + n + " of " + slip, () -> x.price(which, n));
            }
            C.same("0 at first", x.price(slip, 9), 0);
            C.same("9", x.price(slip, 1), 9);
            C.same("1", x.price(slip, 0), 1);
            C.same("0", x.price(slip, 0), 0);
        }
    }

    // "A PRICE of 0: that never is."
    private static void priceOfZero() {
        // NOTES that would each FIT by one SLIP alone; the last is LOST or TWICE.
        int[][] notes = {{1, -1, 2, 3}, {0, -1, 1, 3}, {0, -1, 2, 4}, {0, -1, 2, 2}, {0, 0, 2, 3}};
        for (int slip = 1; slip <= 5; slip++) {
            MoveNotes x = with("ahead 1", "");
            x.put(14, 0, 0);
            x.book(0);
            int[] n = notes[slip - 1];
            x.note(0, n[0], n[1], n[2], n[3]);
            for (int other = 1; other <= 7; other++) {
                // RANK 2 for 3 is off by 1 as well.
                x.price(other, other == slip || slip == 4 && other == 3 ? 0 : 9);
            }
            C.same("without SLIP " + slip, x.least(), -1);
            x.price(slip, 1);
            C.same("with it", x.least(), 1);
        }
        MoveNotes y = with("ahead 1");
        y.put(14, 0, 0);
        y.book(0);
        y.length(1);
        y.price(7, 9);
        C.same("LOST never is", y.least(), -1);
        y.price(6, 9);
        C.same("LOST is", y.least(), 9);
        y.note(0, 0, -1, 2, 3);
        y.note(0, 0, -1, 2, 3);
        y.price(7, 0);
        C.same("TWICE never is", y.least(), -1);
        y.price(7, 9);
        C.same("TWICE is", y.least(), 9);
    }

    // "7 TWICE: a NOTE that is like the one ahead of it in its BOOK (all four) and of no MOVE"
    private static void twice() {
        int[][] second = {{0, 2, 2, 3, 1}, {1, 2, 2, 3, -1}, {0, -1, 2, 3, -1}, {0, 2, 1, 3, -1}, {0, 2, 2, 2, -1}};
        for (int[] n : second) {
            MoveNotes x = with("ahead 1", "");
            x.put(14, 0, 0);
            x.book(0);
            x.note(0, 0, 2, 2, 3);
            x.note(0, n[0], n[1], n[2], n[3]);
            x.price(7, 1);
            C.same("a second of KIND " + n[0] + ", from " + n[1] + ", to " + n[2] + " " + n[3], x.least(), n[4]);
        }
        // The first has none ahead of it, also where the BOOK ahead ends with one like it.
        MoveNotes y = with("ahead 1");
        y.put(14, 0, 0);
        y.length(1);
        y.book(0);
        y.book(0);
        y.note(0, 0, -1, 2, 3);
        y.note(1, 0, -1, 2, 3);
        y.price(7, 1);
        C.same("both are of the MOVE", y.least(), 0);
        C.same("the first of the second BOOK", y.slip(1, 0), 0);
        y.length(0);
        C.same("none of no MOVE", y.least(), -1);
        // All of 24 but the first.
        MoveNotes z = with("ahead 1");
        z.put(14, 0, 0);
        z.book(0);
        for (int n = 0; n < 24; n++) {
            z.note(0, 0, -1, 2, 3);
        }
        z.price(7, 1);
        C.same("23 are too much", z.least(), -1);
        MoveNotes w = with("ahead 1");
        w.put(14, 0, 0);
        w.book(0);
        for (int n = 0; n < 21; n++) {
            w.note(0, 0, -1, 2, 3);
        }
        w.price(7, 1);
        C.same("20 are not", w.least(), 20);
        C.same("so many", w.slips(0, 7), 20);
        C.same("the last", w.slip(0, 20), 7);
    }

    // "Of several SLIPS with which a NOTE FITS a MOVE the one of the least PRICE, then the least number."
    private static void severalSlips() {
        for (int rank = 0; rank < 10; rank++) {
            for (int side = 0; side < 10; side++) {
                // To RANK 3, noted 2: off by 1, and 5 less it is so.
                MoveNotes x = with("ahead 1");
                x.put(14, 0, 0);
                x.book(0);
                x.note(0, 0, -1, 2, 2);
                x.price(3, rank);
                x.price(4, side);
                int due = rank == 0 && side == 0 ? -1 : rank != 0 && (side == 0 || rank <= side) ? 3 : 4;
                C.same("RANK for " + rank + ", SIDE for " + side, x.slip(0, 0), due);
                C.same("its PRICE", x.least(), due == -1 ? -1 : due == 3 ? rank : side);
            }
        }
    }
}
