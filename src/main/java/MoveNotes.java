import java.util.Arrays;
import java.util.NoSuchElementException;

/** Games out of old books: notes of moves, and the readings of least price by which they can be played. */
public final class MoveNotes {
    public static final int NONE = -1;

    private static final int SPENT = -2;
    private static final int WITHOUT = -3;

    private static final int WIDE = 6;
    private static final int SQUARES = 36;
    private static final int MOST_BYTES = 400;
    private static final int MOST_KINDS = 5;
    private static final int MOST_VALUE = 20;
    private static final int MOST_KIND_LINES = 6;
    private static final int MOST_MEASURE_LINES = 10;
    private static final int MOST_NESTED = 6;
    private static final int MOST_BOOKS = 3;
    private static final int MOST_NOTES = 24;
    private static final int NOTE_CELLS = 4;
    private static final int MOST_MOVES = 30;
    private static final int MOST_PICTURES = 10;
    private static final int PICTURE_CELLS = 3;
    private static final int LINE_CELLS = 2;
    private static final int MOST_PRICE = 9;
    private static final int MOST_LEAST = 20;
    private static final int MOST_POSITIONS = 8000;
    private static final int MOST_PLAYED = 200;
    private static final int MOST_WIDTH = 2;

    private static final int KIND_SLIP = 1;
    private static final int FILE_SLIP = 2;
    private static final int RANK_SLIP = 3;
    private static final int SIDE_SLIP = 4;
    private static final int FROM_SLIP = 5;
    private static final int LOST = 6;
    private static final int TWICE = 7;

    /** Stands for a price that no question pays; three of them and a slip are still far from an int's end. */
    private static final int FAR = 1000;

    /** The words of both sorts of texts; the n-th of them, from 0 on, is the token -1 - n. */
    private static final String WORDS =
            "took value number men takes safe not and or add if straight slant ahead leap bite ";
    private static final int TOOK = -1;
    private static final int VALUE = -2;
    private static final int NUMBER = -3;
    private static final int MEN = -4;
    private static final int TAKES = -5;
    private static final int SAFE = -6;
    private static final int NOT = -7;
    private static final int AND = -8;
    private static final int OR = -9;
    private static final int ADD = -10;
    private static final int IF = -11;
    private static final int STRAIGHT = -12;
    private static final int SLANT = -13;
    private static final int AHEAD = -14;
    private static final int LEAP = -15;
    private static final int BITE = -16;

    /** A sign is the token so far below 0 as its byte, and this. A NUMBER is a token as it is. */
    private static final int SIGNS = -1000;
    private static final int PLUS = SIGNS - '+';
    private static final int TIMES = SIGNS - '*';
    private static final int LESS = SIGNS - '<';
    private static final int MORE = SIGNS - '>';
    private static final int OPEN = SIGNS - '(';
    private static final int CLOSE = SIGNS - ')';
    private static final int SEMICOLON = SIGNS - ';';
    private static final int END_OF_TEXT = -2000;
    private static final int NO_TOKEN = -3000;

    /** Steps as pairs: RANKS on, FILES on. */
    private static final int[] STRAIGHT_STEPS = {1, 0, -1, 0, 0, 1, 0, -1};
    private static final int[] SLANT_STEPS = {1, 1, 1, -1, -1, 1, -1, -1};
    private static final int[] LEAP_STEPS = {1, 2, 1, -2, -1, 2, -1, -2, 2, 1, 2, -1, -2, 1, -2, -1};
    private static final int[] AHEAD_STEPS = {1, 0};
    private static final int[] AHEAD_STEPS_OF_SIDE_1 = {-1, 0};
    private static final int[] BITE_STEPS = {1, 1, 1, -1};
    private static final int[] BITE_STEPS_OF_SIDE_1 = {-1, 1, -1, -1};

    private final Tape tape = new Tape();
    private final Parser parser = new Parser(tape);
    private final Game game = new Game();
    private final Game kept = new Game();
    private final Board desk = new Board(game);
    private final Search search = new Search(game);
    private final Search aside = new Search(game);
    private final Trace trace = new Trace(game, search);
    private int wrongByte = NONE;
    private boolean isKept;
    private boolean isAsked;

    public MoveNotes() {
    }

    // ==== Texts ====

    public int feed(int a, int b, int c, int d, int e) {
        if (!tape.hasRoom(20)) {
            return NONE;
        }
        tape.append(a);
        tape.append(b);
        tape.append(c);
        tape.append(d);
        tape.append(e);
        return tape.size;
    }

    public boolean end(int n) {
        if (n < 0 || n > tape.size) {
            return false;
        }
        tape.size = n;
        return true;
    }

    public int kind(int value) throws IllegalArgumentException, UnsupportedOperationException {
        boolean isRight = parser.reads(false);
        useTapeUp();
        if (!isRight || value < 0 || value > MOST_VALUE) {
            throw new IllegalArgumentException("the text is wrong, or the value is none");
        }
        if (game.kinds >= MOST_KINDS) {
            throw new UnsupportedOperationException("there are five kinds");
        }
        game.addKind(value, parser);
        forget();
        return game.kinds - 1;
    }

    public int measure() throws IllegalArgumentException {
        boolean isRight = parser.reads(true);
        useTapeUp();
        if (!isRight) {
            throw new IllegalArgumentException("the text is wrong");
        }
        game.setMeasure(parser);
        forget();
        return parser.lines;
    }

    private void useTapeUp() {
        wrongByte = parser.wrong;
        tape.size = 0;
    }

    public int fault() {
        return wrongByte;
    }

    // ==== The board ====

    public void put(int square, int kind, int side) throws IndexOutOfBoundsException, IllegalArgumentException {
        if (!isSquare(square) || !isKindOrNone(kind)) {
            throw new IndexOutOfBoundsException("no such square or kind");
        }
        if (kind != NONE && !isSide(side)) {
            throw new IllegalArgumentException("no such side");
        }
        set(game.start, square, manOf(kind, side));
        forget();
    }

    public int moves(int side, int i) throws IllegalArgumentException {
        if (!isSide(side) || i < NONE) {
            throw new IllegalArgumentException("no such side, or a number below none");
        }
        desk.setUp();
        return i == NONE ? desk.howManyMoves(side) : desk.moveAt(side, i);
    }

    // ==== Books ====

    public int book(int way) throws IllegalArgumentException, UnsupportedOperationException {
        if (!isWay(way)) {
            throw new IllegalArgumentException("no such way");
        }
        if (game.books >= MOST_BOOKS) {
            throw new UnsupportedOperationException("there are three books");
        }
        forget();
        return game.addBook(way);
    }

    public int note(int book, int kind, int from, int file, int rank)
            throws IndexOutOfBoundsException, IllegalArgumentException, UnsupportedOperationException {
        if (!isBook(book) || !isKind(kind)) {
            throw new IndexOutOfBoundsException("no such book or kind");
        }
        if (!isPlace(from, file, rank)) {
            throw new IllegalArgumentException("no such file or rank");
        }
        if (game.notesOf(book) >= MOST_NOTES) {
            throw new UnsupportedOperationException("there are 24 notes");
        }
        forget();
        int number = game.addNote(book);
        game.setNote(book, number, kind, from, file, rank);
        return number;
    }

    public boolean change(int book, int note, int kind, int from, int file, int rank)
            throws IndexOutOfBoundsException, IllegalArgumentException {
        if (!isNote(book, note) || !isKind(kind)) {
            throw new IndexOutOfBoundsException("no such book, note or kind");
        }
        if (!isPlace(from, file, rank)) {
            throw new IllegalArgumentException("no such file or rank");
        }
        boolean isSame = game.noteCell(book, note, 0) == kind && game.noteCell(book, note, 1) == from
                && game.noteCell(book, note, 2) == file && game.noteCell(book, note, 3) == rank;
        game.setNote(book, note, kind, from, file, rank);
        forget();
        return !isSame;
    }

    public int look(int book, int note, int what) throws IndexOutOfBoundsException, NoSuchElementException {
        if (!isNote(book, note)) {
            throw new IndexOutOfBoundsException("no such book or note");
        }
        if (what < 0 || what >= NOTE_CELLS) {
            throw new NoSuchElementException("a note has no such part");
        }
        return game.noteCell(book, note, what);
    }

    public int write(int way, int moves, int slips, int seed)
            throws IllegalArgumentException, UnsupportedOperationException {
        if (!isWay(way) || moves < 1 || moves > MOST_NOTES || slips < 0 || slips > 9) {
            throw new IllegalArgumentException("no such way, number of moves or of slips");
        }
        if (game.books >= MOST_BOOKS) {
            throw new UnsupportedOperationException("there are three books");
        }
        forget();
        int book = game.addBook(way);
        desk.setUp();
        new Writer(game, desk, seed).fill(book, moves, slips);
        return book;
    }

    // ==== Prices, the length, pictures ====

    public int price(int slip, int n) throws IndexOutOfBoundsException, IllegalArgumentException {
        if (!isSlip(slip)) {
            throw new IndexOutOfBoundsException("no such slip");
        }
        if (n < 0 || n > MOST_PRICE) {
            throw new IllegalArgumentException("no such price");
        }
        int before = at(game.prices, slip);
        set(game.prices, slip, n);
        forget();
        return before;
    }

    public void length(int n) throws IllegalArgumentException {
        if (n < NONE || n > MOST_MOVES) {
            throw new IllegalArgumentException("no such length");
        }
        game.told = n;
        forget();
    }

    public int picture(int moves, int square, int kind, int side)
            throws IndexOutOfBoundsException, IllegalArgumentException, UnsupportedOperationException {
        if (!isSquare(square) || !isKindOrNone(kind)) {
            throw new IndexOutOfBoundsException("no such square or kind");
        }
        if (moves < 0 || moves > MOST_MOVES || !isSide(side)) {
            throw new IllegalArgumentException("no such number of moves, or no such side");
        }
        if (game.pictures >= MOST_PICTURES) {
            throw new UnsupportedOperationException("there are ten pictures");
        }
        game.addPicture(moves, square, manOf(kind, side));
        forget();
        return game.pictures;
    }

    // ==== Readings ====

    public int least() {
        return asked();
    }

    public int many() {
        int found = asked();
        return found < 0 ? found : search.found;
    }

    public int read(int i) throws IllegalArgumentException {
        if (i < NONE) {
            throw new IllegalArgumentException("a number below none");
        }
        int found = asked();
        return found < 0 ? found : search.first.tell(i);
    }

    public int readNext(int i) throws IllegalArgumentException {
        if (i < NONE) {
            throw new IllegalArgumentException("a number below none");
        }
        int found = asked();
        if (found < 0) {
            return found;
        }
        return search.found < 2 ? WITHOUT : search.next.tell(i);
    }

    public int slip(int book, int note) throws IndexOutOfBoundsException {
        if (!isNote(book, note)) {
            throw new IndexOutOfBoundsException("no such book or note");
        }
        int found = asked();
        if (found < 0) {
            return found;
        }
        trace.follow();
        return trace.slipOfNote(book, note);
    }

    public int slips(int book, int slip) throws IndexOutOfBoundsException {
        if (!isBook(book) || !isSlip(slip)) {
            throw new IndexOutOfBoundsException("no such book or slip");
        }
        int found = asked();
        if (found < 0) {
            return found;
        }
        trace.follow();
        return trace.howManySlips(book, slip);
    }

    public int breaks(int book) throws IndexOutOfBoundsException {
        if (!isBook(book)) {
            throw new IndexOutOfBoundsException("no such book");
        }
        aside.question.askOne(game, book);
        aside.question.leaveSlipsAndBounds();
        int deepest = aside.deepestForNothing();
        return deepest >= 0 && deepest >= game.notesOf(book) ? WITHOUT : deepest;
    }

    public int brief(int i) throws IllegalArgumentException {
        if (i < 0) {
            throw new IllegalArgumentException("a number below 0");
        }
        int found = asked();
        if (found < 0) {
            return found;
        }
        int move = search.first.tell(i);
        if (move < 0) {
            return WITHOUT;
        }
        desk.setUp();
        for (int n = 0; n < i && n < MOST_MOVES; n++) {
            desk.go(search.first.tell(n));
        }
        return desk.howManyLike(i & 1, move);
    }

    public int part() {
        int found = asked();
        if (found < 0) {
            return found;
        }
        return search.found < 2 ? WITHOUT : search.first.partsFrom(search.next);
    }

    public int best(int i) throws IllegalArgumentException {
        if (i < NONE) {
            throw new IllegalArgumentException("a number below none");
        }
        int found = asked();
        if (found < 0) {
            return found;
        }
        search.findBest();
        return i == NONE ? search.best.played : search.best.tell(i);
    }

    public long odds(int i, int width, boolean below) throws IllegalArgumentException {
        if (i < 0 || width < 0 || width > MOST_WIDTH) {
            throw new IllegalArgumentException("a number below 0, or no such width");
        }
        int found = asked();
        if (found < 0) {
            return found;
        }
        if (!search.weighs(i, width)) {
            return SPENT;
        }
        if (i >= search.first.size) {
            return WITHOUT;
        }
        long common = commonPart(search.having, search.all);
        return (below ? search.all : search.having) / (common < 1 ? 1 : common);
    }

    // ==== Books beside each other ====

    public int shared(int first, int second, boolean copied) throws IndexOutOfBoundsException {
        if (!isBook(first) || !isBook(second)) {
            throw new IndexOutOfBoundsException("no such book");
        }
        int found = asked();
        if (found < 0) {
            return found;
        }
        trace.follow();
        int both = trace.howManyShared(first, second);
        if (!copied) {
            return both;
        }
        return both > trace.howManyOwn(first, second) ? 1 : 0;
    }

    public int alike(int first, int second) throws IndexOutOfBoundsException {
        if (!isBook(first) || !isBook(second)) {
            throw new IndexOutOfBoundsException("no such book");
        }
        return game.mostInCommon(first, second, new int[MOST_NOTES + 1]);
    }

    public int way(int book) throws IndexOutOfBoundsException {
        if (!isBook(book)) {
            throw new IndexOutOfBoundsException("no such book");
        }
        int asIs = leastBy(book, 0);
        int fromSide = leastBy(book, 1);
        if (asIs == SPENT || fromSide == SPENT) {
            return SPENT;
        }
        if (asIs == fromSide) {
            return WITHOUT;
        }
        return fromSide == NONE || (asIs != NONE && asIs < fromSide) ? 0 : 1;
    }

    private int leastBy(int book, int way) {
        aside.question.askOne(game, book);
        set(aside.question.ways, book, way);
        aside.findLeast();
        return aside.price;
    }

    public int cheaper(int slip) throws IndexOutOfBoundsException {
        if (!isSlip(slip)) {
            throw new IndexOutOfBoundsException("no such slip");
        }
        int now = asked();
        if (now < 0) {
            return now;
        }
        if (at(game.prices, slip) <= 1) {
            return 0;
        }
        aside.question.askAll(game);
        set(aside.question.prices, slip, 1);
        aside.findLeast();
        return aside.price < 0 ? aside.price : now - aside.price;
    }

    // ==== The image and the counts ====

    public void image() {
        kept.become(game);
        isKept = true;
    }

    public boolean back() {
        if (!isKept) {
            return false;
        }
        game.become(kept);
        forget();
        return true;
    }

    public int count(int what) {
        switch (what) {
            case 0:
                return game.kinds;
            case 1:
                return game.menAtStart();
            case 2:
                return game.books;
            case 3:
                return game.notesOfAll();
            case 4:
                return game.pictures;
            case 5:
                return game.told;
            case 6:
                return asked() == SPENT ? SPENT : search.positions;
            case 7:
                return game.valueAtStart();
            default:
                return NONE;
        }
    }

    // ==== What is asked once and used until something changes ====

    private void forget() {
        isAsked = false;
        trace.isFollowed = false;
    }

    private int asked() {
        if (!isAsked) {
            search.question.askAll(game);
            search.findLeast();
            isAsked = true;
        }
        return search.price;
    }

    // ==== Whether there is such a thing ====

    private static boolean isSquare(int square) {
        return square >= 0 && square < SQUARES;
    }

    private static boolean isSide(int side) {
        return side == 0 || side == 1;
    }

    private static boolean isWay(int way) {
        return way == 0 || way == 1;
    }

    private static boolean isSlip(int slip) {
        return slip >= KIND_SLIP && slip <= TWICE;
    }

    private boolean isKind(int kind) {
        return kind >= 0 && kind < game.kinds;
    }

    private boolean isKindOrNone(int kind) {
        return kind == NONE || isKind(kind);
    }

    private boolean isBook(int book) {
        return book >= 0 && book < game.books;
    }

    private boolean isNote(int book, int note) {
        return isBook(book) && note >= 0 && note < game.notesOf(book);
    }

    private static boolean isPlace(int from, int file, int rank) {
        return from >= NONE && from < WIDE && file >= 0 && file < WIDE && rank >= 0 && rank < WIDE;
    }

    // ==== Rows of numbers, and numbers ====

    /** A cell of a row; 0 where the row has none. */
    private static int at(int[] row, int i) {
        return i >= 0 && i < row.length ? row[i] : 0;
    }

    private static void set(int[] row, int i, int value) {
        if (i >= 0 && i < row.length) {
            row[i] = value;
        }
    }

    private static void copy(int[] from, int[] to) {
        System.arraycopy(from, 0, to, 0, Math.min(from.length, to.length));
    }

    private static long commonPart(long a, long b) {
        long more = a;
        long less = b;
        // The pair at least halves in two rounds, so 64 bits are used up long before the bound.
        for (int n = 0; n < 200 && less != 0; n++) {
            long rest = more % less;
            more = less;
            less = rest;
        }
        return more;
    }

    /** A man as a SQUARE holds him: 0 is nothing. */
    private static int manOf(int kind, int side) {
        return kind == NONE ? 0 : 1 + 2 * kind + side;
    }

    private static int kindOf(int man) {
        return (man - 1) >> 1;
    }

    private static boolean isOf(int man, int side) {
        return man > 0 && ((man - 1) & 1) == side;
    }

    /** A RANK as a WAY counts it for the SIDE that moves. */
    private static int counted(int rank, int way, int side) {
        return way == 1 && side == 1 ? WIDE - 1 - rank : rank;
    }

    /** The TAPE. */
    private static final class Tape {
        final int[] bytes = new int[MOST_BYTES];
        int size;

        boolean hasRoom(int n) {
            return size + n <= MOST_BYTES;
        }

        void append(int four) {
            for (int shift = 24; shift >= 0; shift -= 8) {
                set(bytes, size, (four >>> shift) & 255);
                size++;
            }
        }
    }

    /** Reads the TAPE as a text of either sort, and makes a row of numbers of it. */
    private static final class Parser {
        final Tape tape;
        /** Of a KIND two cells a LINE; of a MEASURE what to do, each thing behind those that it works on. */
        final int[] made = new int[MOST_BYTES];
        int size;
        int lines;
        int wrong = NONE;
        private final int[] tokens = new int[MOST_BYTES + 1];
        private final int[] begins = new int[MOST_BYTES + 1];
        /** The number and the kind of the first token that has not been taken. */
        private int number;
        private int token;

        Parser(Tape tape) {
            this.tape = tape;
        }

        boolean reads(boolean isMeasure) {
            int most = isMeasure ? MOST_MEASURE_LINES : MOST_KIND_LINES;
            size = 0;
            lines = 0;
            wrong = NONE;
            split();
            if (token == END_OF_TEXT) {
                return true;
            }
            for (int n = 0; n < most; n++) {
                boolean isLine = isMeasure ? isMeasureLine() : isKindLine();
                if (!isLine) {
                    return false;
                }
                lines++;
                if (token == END_OF_TEXT) {
                    return true;
                }
                if (token != SEMICOLON) {
                    return fail();
                }
                pass();
            }
            return fail();
        }

        private boolean fail() {
            wrong = at(begins, number);
            return false;
        }

        private void pass() {
            number++;
            token = number < tokens.length ? at(tokens, number) : END_OF_TEXT;
        }

        private void emit(int cell) {
            set(made, size, cell);
            size++;
        }

        // ---- tokens ----

        private void split() {
            int count = 0;
            int i = 0;
            for (int n = 0; n < MOST_BYTES && i < tape.size; n++) {
                if (at(tape.bytes, i) == ' ') {
                    i++;
                } else {
                    int behind = behindToken(i);
                    set(begins, count, i);
                    set(tokens, count, tokenOf(i, behind));
                    count++;
                    i = behind;
                }
            }
            set(begins, count, tape.size);
            set(tokens, count, END_OF_TEXT);
            number = 0;
            token = at(tokens, 0);
        }

        private int behindToken(int begin) {
            int i = begin + 1;
            if (isLetter(begin)) {
                while (i < tape.size && isLetter(i)) {
                    i++;
                }
            } else if (isDigit(begin)) {
                while (i < tape.size && isDigit(i)) {
                    i++;
                }
            }
            return i;
        }

        private boolean isLetter(int i) {
            return at(tape.bytes, i) >= 'a' && at(tape.bytes, i) <= 'z';
        }

        private boolean isDigit(int i) {
            return at(tape.bytes, i) >= '0' && at(tape.bytes, i) <= '9';
        }

        private int tokenOf(int begin, int behind) {
            if (isLetter(begin)) {
                return wordOf(begin, behind);
            }
            return isDigit(begin) ? numberOf(begin, behind) : SIGNS - at(tape.bytes, begin);
        }

        private int numberOf(int begin, int behind) {
            if (behind - begin > 3) {
                return NO_TOKEN;
            }
            int sum = 0;
            for (int i = begin; i < behind; i++) {
                sum = 10 * sum + at(tape.bytes, i) - '0';
            }
            return sum;
        }

        private int wordOf(int begin, int behind) {
            int word = -1;
            int i = begin;
            for (int n = 0; n < WORDS.length(); n++) {
                if (WORDS.charAt(n) == ' ') {
                    if (i == behind) {
                        return word;
                    }
                    word--;
                    i = begin;
                } else {
                    // Past the word's end once a letter differs, so that the next blank does not find it.
                    i = i < behind && at(tape.bytes, i) == WORDS.charAt(n) ? i + 1 : behind + 1;
                }
            }
            return NO_TOKEN;
        }

        // ---- a KIND's LINE ----

        private boolean isKindLine() {
            int sort = token;
            if (sort > STRAIGHT || sort < BITE) {
                return fail();
            }
            int far = 1;
            pass();
            if (sort != LEAP && sort != BITE) {
                far = token;
                if (far < 1 || far >= WIDE) {
                    return fail();
                }
                pass();
            }
            emit(sort);
            emit(far);
            return true;
        }

        // ---- a MEASURE's LINE ----

        private boolean isMeasureLine() {
            if (token != ADD) {
                return fail();
            }
            pass();
            if (token < 0) {
                return fail();
            }
            emit(token);
            pass();
            if (token == TIMES) {
                pass();
                if (!isFact()) {
                    return fail();
                }
                emit(token);
                emit(TIMES);
                pass();
            }
            if (token == IF) {
                pass();
                if (!isCondition(0)) {
                    return false;
                }
                emit(IF);
            }
            emit(ADD);
            return true;
        }

        private boolean isFact() {
            return token <= TOOK && token >= MEN;
        }

        /** ATOMs with "and" and "or" between; an OR is emitted when the ALL behind it has ended. */
        private boolean isCondition(int depth) {
            if (!isAtom(depth)) {
                return false;
            }
            boolean isOrDue = false;
            for (int n = 0; n < MOST_BYTES && (token == AND || token == OR); n++) {
                boolean isAnd = token == AND;
                if (!isAnd && isOrDue) {
                    emit(OR);
                }
                isOrDue = isOrDue || !isAnd;
                pass();
                if (!isAtom(depth)) {
                    return false;
                }
                if (isAnd) {
                    emit(AND);
                }
            }
            if (isOrDue) {
                emit(OR);
            }
            return true;
        }

        private boolean isAtom(int depth) {
            if (token == NOT || token == OPEN) {
                return depth < MOST_NESTED ? isNested(depth + 1) : fail();
            }
            if (token == TAKES || token == SAFE) {
                emit(token);
                pass();
                return true;
            }
            if (!isSum()) {
                return false;
            }
            int sign = token;
            if (sign != LESS && sign != MORE) {
                return fail();
            }
            pass();
            if (!isSum()) {
                return false;
            }
            emit(sign);
            return true;
        }

        private boolean isNested(int depth) {
            boolean isNot = token == NOT;
            pass();
            if (isNot ? !isAtom(depth) : !isCondition(depth)) {
                return false;
            }
            if (isNot) {
                emit(NOT);
                return true;
            }
            if (token != CLOSE) {
                return fail();
            }
            pass();
            return true;
        }

        private boolean isSum() {
            for (int n = 0; n < MOST_BYTES; n++) {
                if (token < 0 && !isFact()) {
                    return fail();
                }
                emit(token);
                pass();
                if (n > 0) {
                    emit(PLUS);
                }
                if (token != PLUS) {
                    return true;
                }
                pass();
            }
            return fail();
        }
    }

    /** All that has been told, and so all that THE IMAGE keeps. */
    private static final class Game {
        int kinds;
        final int[] values = new int[MOST_KINDS];
        final int[] lineCounts = new int[MOST_KINDS];
        final int[] lines = new int[MOST_KINDS * MOST_KIND_LINES * LINE_CELLS];
        final int[] start = new int[SQUARES];
        int books;
        final int[] ways = new int[MOST_BOOKS];
        final int[] noteCounts = new int[MOST_BOOKS];
        final int[] notes = new int[MOST_BOOKS * MOST_NOTES * NOTE_CELLS];
        final int[] prices = new int[TWICE + 1];
        /** THE LENGTH. */
        int told = NONE;
        int pictures;
        final int[] pictureCells = new int[MOST_PICTURES * PICTURE_CELLS];
        int codes;
        final int[] code = new int[MOST_BYTES];

        void become(Game other) {
            kinds = other.kinds;
            copy(other.values, values);
            copy(other.lineCounts, lineCounts);
            copy(other.lines, lines);
            copy(other.start, start);
            books = other.books;
            copy(other.ways, ways);
            copy(other.noteCounts, noteCounts);
            copy(other.notes, notes);
            copy(other.prices, prices);
            told = other.told;
            pictures = other.pictures;
            copy(other.pictureCells, pictureCells);
            codes = other.codes;
            copy(other.code, code);
        }

        void addKind(int value, Parser text) {
            set(values, kinds, value);
            set(lineCounts, kinds, text.lines);
            for (int n = 0; n < MOST_KIND_LINES * LINE_CELLS; n++) {
                set(lines, kinds * MOST_KIND_LINES * LINE_CELLS + n, at(text.made, n));
            }
            kinds++;
        }

        /** Of the n-th LINE of a KIND: what 0 the word, 1 how far. */
        int lineCell(int kind, int n, int what) {
            return at(lines, (kind * MOST_KIND_LINES + n) * LINE_CELLS + what);
        }

        void setMeasure(Parser text) {
            codes = text.size;
            copy(text.made, code);
        }

        int addBook(int way) {
            set(ways, books, way);
            set(noteCounts, books, 0);
            books++;
            return books - 1;
        }

        int notesOf(int book) {
            return at(noteCounts, book);
        }

        int notesOfAll() {
            int sum = 0;
            for (int book = 0; book < books; book++) {
                sum += notesOf(book);
            }
            return sum;
        }

        int addNote(int book) {
            int number = notesOf(book);
            set(noteCounts, book, number + 1);
            return number;
        }

        void setNote(int book, int note, int kind, int from, int file, int rank) {
            int cell = (book * MOST_NOTES + note) * NOTE_CELLS;
            set(notes, cell, kind);
            set(notes, cell + 1, from);
            set(notes, cell + 2, file);
            set(notes, cell + 3, rank);
        }

        int noteCell(int book, int note, int what) {
            return at(notes, (book * MOST_NOTES + note) * NOTE_CELLS + what);
        }

        boolean isLikeNote(int book, int note, int otherBook, int otherNote) {
            int cell = (book * MOST_NOTES + note) * NOTE_CELLS;
            int other = (otherBook * MOST_NOTES + otherNote) * NOTE_CELLS;
            return at(notes, cell + 1) == at(notes, other + 1)
                    && isLikeButForFrom(book, note, otherBook, otherNote);
        }

        boolean isLikeButForFrom(int book, int note, int otherBook, int otherNote) {
            int cell = (book * MOST_NOTES + note) * NOTE_CELLS;
            int other = (otherBook * MOST_NOTES + otherNote) * NOTE_CELLS;
            return at(notes, cell) == at(notes, other) && at(notes, cell + 2) == at(notes, other + 2)
                    && at(notes, cell + 3) == at(notes, other + 3);
        }

        /** ALIKE: the row holds, for so many NOTES of the second, the most so far. */
        int mostInCommon(int first, int second, int[] row) {
            for (int n = 0; n < notesOf(first); n++) {
                int slant = 0;
                for (int m = 1; m <= notesOf(second); m++) {
                    int above = at(row, m);
                    int most = isLikeNote(first, n, second, m - 1) ? slant + 1 : Math.max(above, at(row, m - 1));
                    set(row, m, most);
                    slant = above;
                }
            }
            return at(row, notesOf(second));
        }

        void addPicture(int moves, int square, int man) {
            int cell = pictures * PICTURE_CELLS;
            set(pictureCells, cell, moves);
            set(pictureCells, cell + 1, square);
            set(pictureCells, cell + 2, man);
            pictures++;
        }

        int menAtStart() {
            int sum = 0;
            for (int square = 0; square < SQUARES; square++) {
                sum += at(start, square) == 0 ? 0 : 1;
            }
            return sum;
        }

        int valueAtStart() {
            int sum = 0;
            for (int square = 0; square < SQUARES; square++) {
                sum += valueOf(at(start, square));
            }
            return sum;
        }

        int valueOf(int man) {
            return man == 0 ? 0 : at(values, kindOf(man));
        }
    }

    /** THE BOARD with its men, behind START or behind some MOVES. */
    private static final class Board {
        final Game game;
        final int[] men = new int[SQUARES];

        Board(Game game) {
            this.game = game;
        }

        void setUp() {
            copy(game.start, men);
        }

        /** Makes a MOVE, and answers who was TAKEN. */
        int go(int move) {
            int from = move / SQUARES;
            int to = move % SQUARES;
            int taken = at(men, to);
            set(men, to, at(men, from));
            set(men, from, 0);
            return taken;
        }

        void goBack(int move, int taken) {
            int from = move / SQUARES;
            int to = move % SQUARES;
            set(men, from, at(men, to));
            set(men, to, taken);
        }

        int howManyMen(int side) {
            int sum = 0;
            for (int square = 0; square < SQUARES; square++) {
                sum += isOf(at(men, square), side) ? 1 : 0;
            }
            return sum;
        }

        int howManyMoves(int side) {
            int sum = 0;
            for (int from = 0; from < SQUARES; from++) {
                sum += Long.bitCount(reachOf(from, side));
            }
            return sum;
        }

        int moveAt(int side, int i) {
            int left = i;
            for (int from = 0; from < SQUARES; from++) {
                long targets = reachOf(from, side);
                int here = Long.bitCount(targets);
                if (left < here) {
                    return SQUARES * from + bitAt(targets, left);
                }
                left -= here;
            }
            return NONE;
        }

        private static int bitAt(long bits, int i) {
            int left = i;
            for (int n = 0; n < SQUARES; n++) {
                if (((bits >>> n) & 1L) != 0) {
                    if (left == 0) {
                        return n;
                    }
                    left--;
                }
            }
            return 0;
        }

        /** How many MOVES of a SIDE are of the KIND of man and to the SQUARE of a MOVE. */
        int howManyLike(int side, int move) {
            int kind = kindOf(at(men, move / SQUARES));
            int to = move % SQUARES;
            int sum = 0;
            for (int from = 0; from < SQUARES; from++) {
                if (kindOf(at(men, from)) == kind && ((reachOf(from, side) >>> to) & 1L) != 0) {
                    sum++;
                }
            }
            return sum;
        }

        /** The SQUARES to which a man of a SIDE may go, a bit each; none, if there is no such man. */
        long reachOf(int from, int side) {
            int man = at(men, from);
            long all = 0;
            if (!isOf(man, side)) {
                return all;
            }
            int kind = kindOf(man);
            for (int n = 0; n < at(game.lineCounts, kind); n++) {
                all |= reachBy(game.lineCell(kind, n, 0), game.lineCell(kind, n, 1), from, side);
            }
            return all;
        }

        private long reachBy(int sort, int far, int from, int side) {
            int[] steps = stepsOf(sort, side);
            long all = 0;
            for (int i = 0; i + 1 < steps.length; i += 2) {
                int rank = from / WIDE;
                int file = from % WIDE;
                int before = 0;
                for (int n = 0; n < far && before == 0; n++) {
                    rank += steps[i];
                    file += steps[i + 1];
                    if (rank < 0 || rank >= WIDE || file < 0 || file >= WIDE) {
                        break;
                    }
                    before = at(men, WIDE * rank + file);
                    if (before == 0 ? sort != BITE : sort != AHEAD && isOf(before, 1 - side)) {
                        all |= 1L << (WIDE * rank + file);
                    }
                }
            }
            return all;
        }

        private static int[] stepsOf(int sort, int side) {
            switch (sort) {
                case STRAIGHT:
                    return STRAIGHT_STEPS;
                case SLANT:
                    return SLANT_STEPS;
                case LEAP:
                    return LEAP_STEPS;
                case AHEAD:
                    return side == 0 ? AHEAD_STEPS : AHEAD_STEPS_OF_SIDE_1;
                default:
                    return side == 0 ? BITE_STEPS : BITE_STEPS_OF_SIDE_1;
            }
        }
    }

    /** Writes a BOOK by DRAWS. */
    private static final class Writer {
        private final Game game;
        private final Board board;
        private int seed;

        Writer(Game game, Board board, int seed) {
            this.game = game;
            this.board = board;
            this.seed = seed;
        }

        void fill(int book, int moves, int slips) {
            for (int n = 0; n < moves; n++) {
                int side = n & 1;
                int all = board.howManyMoves(side);
                if (all < 1) {
                    return;
                }
                int move = board.moveAt(side, draw() % all);
                if (move < 0) {
                    return;
                }
                writeNote(book, move, side);
                if (draw() % 10 < slips) {
                    addSlip(book, game.notesOf(book) - 1, draw() % 3);
                }
                board.go(move);
            }
        }

        private int draw() {
            seed = 1103515245 * seed + 12345;
            return (seed >>> 16) & 32767;
        }

        private void writeNote(int book, int move, int side) {
            int to = move % SQUARES;
            int rank = counted(to / WIDE, at(game.ways, book), side);
            int kind = kindOf(at(board.men, move / SQUARES));
            game.setNote(book, game.addNote(book), kind, NONE, to % WIDE, rank);
        }

        private void addSlip(int book, int note, int sort) {
            int kind = game.noteCell(book, note, 0);
            int file = game.noteCell(book, note, 2);
            int rank = game.noteCell(book, note, 3);
            if (sort == 0) {
                kind = kind + 1 >= game.kinds ? 0 : kind + 1;
            } else if (sort == 1) {
                file = oneMore(file);
            } else {
                rank = oneMore(rank);
            }
            game.setNote(book, note, kind, NONE, file, rank);
        }

        private static int oneMore(int n) {
            return n == WIDE - 1 ? n - 1 : n + 1;
        }
    }

    /** Which BOOKS are asked, by which WAYS and PRICES, and whether THE LENGTH and PICTURES bind. */
    private static final class Question {
        int firstBook;
        int behindBooks;
        boolean isBound;
        final int[] ways = new int[MOST_BOOKS];
        final int[] prices = new int[TWICE + 1];

        void askAll(Game game) {
            firstBook = 0;
            behindBooks = game.books;
            isBound = true;
            copy(game.ways, ways);
            copy(game.prices, prices);
        }

        void askOne(Game game, int book) {
            askAll(game);
            firstBook = book;
            behindBooks = book + 1;
        }

        void leaveSlipsAndBounds() {
            isBound = false;
            Arrays.fill(prices, 0);
        }

        /** The MOVES behind which no beginning is gone on from. */
        int mostMoves(Game game) {
            return isBound && game.told != NONE ? game.told : MOST_MOVES;
        }

        boolean isBarred(Game game, Board board, int moves) {
            for (int n = 0; isBound && n < game.pictures; n++) {
                int cell = n * PICTURE_CELLS;
                if (at(game.pictureCells, cell) == moves
                        && at(board.men, at(game.pictureCells, cell + 1)) != at(game.pictureCells, cell + 2)) {
                    return true;
                }
            }
            return false;
        }

        /** Whether so many MOVES are as many as THE LENGTH says, and enough for all PICTURES. */
        boolean isLongEnough(Game game, int moves) {
            if (!isBound) {
                return true;
            }
            for (int n = 0; n < game.pictures; n++) {
                if (at(game.pictureCells, n * PICTURE_CELLS) > moves) {
                    return false;
                }
            }
            return game.told == NONE || game.told == moves;
        }
    }

    /**
     * The least PRICES of each BOOK: a row behind each number of MOVES, with a cell for each number of its first NOTES.
     * What is above the limit, with what the other BOOKS cost at least, is FAR. Few cells of a row are not, so the first
     * and the last of these are kept, and what lies outside is never looked at.
     */
    private static final class Prices {
        private static final int ROW = MOST_NOTES + 1;

        final Game game;
        final Question question;
        int limit;
        private final int[] cells = new int[(MOST_MOVES + 1) * MOST_BOOKS * ROW];
        private final int[] firsts = new int[(MOST_MOVES + 1) * MOST_BOOKS];
        private final int[] lasts = new int[(MOST_MOVES + 1) * MOST_BOOKS];
        private final int[] leasts = new int[(MOST_MOVES + 1) * MOST_BOOKS];

        Prices(Game game, Question question) {
            this.game = game;
            this.question = question;
        }

        void begin(int limit) {
            this.limit = limit;
            for (int book = 0; book < MOST_BOOKS; book++) {
                beginRow(book);
                setCell(book, 0, 0);
            }
        }

        int cell(int moves, int book, int notes) {
            int row = moves * MOST_BOOKS + book;
            return notes < at(firsts, row) || notes > at(lasts, row) ? FAR : at(cells, row * ROW + notes);
        }

        /** The PRICE of a READING of so many MOVES. */
        int whole(int moves) {
            int sum = 0;
            for (int book = question.firstBook; book < question.behindBooks; book++) {
                sum += cell(moves, book, game.notesOf(book));
            }
            return sum;
        }

        /** The PRICE so far of a beginning of so many MOVES. */
        private int soFar(int moves) {
            int sum = 0;
            for (int book = question.firstBook; book < question.behindBooks; book++) {
                sum += at(leasts, moves * MOST_BOOKS + book);
            }
            return sum;
        }

        /**
         * The SQUARES to which a MOVE may go, if its PRICE so far shall not be above the limit; a few too many. A MOVE to
         * a SQUARE that no NOTE which may be next is near to must be LOST in that BOOK, and so many LOST are not paid.
         */
        long hopeful(int moves) {
            long nearOne = 0;
            long nearTwo = 0;
            long nearThree = 0;
            for (int book = question.firstBook; book < question.behindBooks; book++) {
                long near = nearNotes(moves, book);
                nearThree |= nearTwo & near;
                nearTwo |= nearOne & near;
                nearOne |= near;
            }
            int lost = at(question.prices, LOST);
            int due = question.behindBooks - question.firstBook - (lost > 0 ? (limit - soFar(moves)) / lost : 0);
            if (due <= 0) {
                return -1L;
            }
            return due == 1 ? nearOne : due == 2 ? nearTwo : nearThree;
        }

        private long nearNotes(int moves, int book) {
            int row = moves * MOST_BOOKS + book;
            int way = at(question.ways, book);
            long near = 0;
            for (int n = at(firsts, row); n <= at(lasts, row) && n < game.notesOf(book); n++) {
                if (at(cells, row * ROW + n) < FAR) {
                    int file = game.noteCell(book, n, 2);
                    int rank = counted(game.noteCell(book, n, 3), way, moves & 1);
                    near |= bitOf(file, rank) | bitOf(file - 1, rank) | bitOf(file + 1, rank)
                            | bitOf(file, rank - 1) | bitOf(file, rank + 1) | bitOf(file, WIDE - 1 - rank);
                }
            }
            return near;
        }

        private static long bitOf(int file, int rank) {
            return file < 0 || file >= WIDE || rank < 0 || rank >= WIDE ? 0L : 1L << (WIDE * rank + file);
        }

        /** The PRICE so far with one more MOVE, of a man of a KIND; its rows are made (as far as they may count). */
        int withMove(int moves, int kind, int move) {
            int lost = at(question.prices, LOST);
            int twice = at(question.prices, TWICE);
            int sum = 0;
            int others = soFar(moves);
            for (int book = question.firstBook; book < question.behindBooks && sum <= limit; book++) {
                int old = moves * MOST_BOOKS + book;
                int row = old + MOST_BOOKS;
                int last = at(lasts, old);
                others -= at(leasts, old);
                int most = limit - sum - others;
                int ahead = FAR;
                int made = FAR;
                beginRow(row);
                for (int n = at(firsts, old); n <= game.notesOf(book) && (n <= last + 1 || made < FAR); n++) {
                    int above = n <= last ? at(cells, old * ROW + n) : FAR;
                    int price = lost > 0 ? above + lost : FAR;
                    int slip = ahead < FAR ? slipOf(book, n - 1, kind, move, moves & 1) : NONE;
                    if (slip != NONE) {
                        price = Math.min(price, ahead + at(question.prices, slip));
                    }
                    if (made < FAR && twice > 0 && n > 1 && game.isLikeNote(book, n - 1, book, n - 2)) {
                        price = Math.min(price, made + twice);
                    }
                    ahead = above;
                    made = price > most ? FAR : price;
                    setCell(row, n, made);
                }
                sum += at(leasts, row);
            }
            return sum;
        }

        private void beginRow(int row) {
            set(firsts, row, FAR);
            set(lasts, row, NONE);
            set(leasts, row, FAR);
        }

        /** The cells of a row are set from the first on. */
        private void setCell(int row, int n, int price) {
            set(cells, row * ROW + n, price);
            if (price < FAR) {
                set(firsts, row, Math.min(at(firsts, row), n));
                set(lasts, row, n);
                set(leasts, row, Math.min(at(leasts, row), price));
            }
        }

        /** The SLIP with which a NOTE FITS a MOVE of a SIDE: 0 to 5; NONE, if it does not. */
        int slipOf(int book, int note, int kind, int move, int side) {
            int to = move % SQUARES;
            int files = game.noteCell(book, note, 2) - to % WIDE;
            if (files < -1 || files > 1) {
                return NONE;
            }
            int from = game.noteCell(book, note, 1);
            int rank = game.noteCell(book, note, 3);
            int due = counted(to / WIDE, at(question.ways, book), side);
            boolean isKind = game.noteCell(book, note, 0) == kind;
            boolean isFrom = from == NONE || from == move / SQUARES % WIDE;
            int wrong = (isKind ? 0 : 1) + (isFrom ? 0 : 1) + (files == 0 ? 0 : 1) + (rank == due ? 0 : 1);
            if (wrong != 1) {
                return wrong == 0 ? 0 : NONE;
            }
            if (rank != due) {
                return rankSlip(rank, due);
            }
            int slip = !isKind ? KIND_SLIP : !isFrom ? FROM_SLIP : FILE_SLIP;
            // A PRICE of 0 says that the SLIP never is.
            return at(question.prices, slip) > 0 ? slip : NONE;
        }

        private int rankSlip(int rank, int due) {
            int off = rank - due == 1 || due - rank == 1 ? at(question.prices, RANK_SLIP) : 0;
            int turned = WIDE - 1 - rank == due ? at(question.prices, SIDE_SLIP) : 0;
            if (turned > 0 && (off == 0 || turned < off)) {
                return SIDE_SLIP;
            }
            return off > 0 ? RANK_SLIP : NONE;
        }
    }

    /** The MOVES of a READING that is kept. */
    private static final class Path {
        final int[] moves = new int[MOST_MOVES];
        /** NONE, if none is kept. */
        int size = NONE;
        int played;

        void keep(int[] path, int length, int sum) {
            copy(path, moves);
            size = length;
            played = sum;
        }

        /** How many MOVES (i NONE), or MOVE i. */
        int tell(int i) {
            if (i == NONE) {
                return size;
            }
            return i >= 0 && i < size ? at(moves, i) : WITHOUT;
        }

        /** The number of the first MOVE by which two that are not the same differ. */
        int partsFrom(Path other) {
            int n = 0;
            while (n < size && n < other.size && at(moves, n) == at(other.moves, n)) {
                n++;
            }
            return n;
        }
    }

    /** What MEASURE tells of a MOVE. */
    private static final class Scale {
        /** Some three cells for each of what stands within one another, at most, and a LINE's number. */
        private final int[] stack = new int[64];
        private int size;
        private int took;
        private int value;
        private int number;
        private int men;
        private boolean isTaking;
        private boolean isSafe;

        /** The MOVE has been made; it is the n-th, from 1 on. */
        int weigh(Game game, Board board, int move, int taken, int n) {
            int to = move % SQUARES;
            int side = (n - 1) & 1;
            isTaking = taken != 0;
            took = game.valueOf(taken);
            value = game.valueOf(at(board.men, to));
            number = n;
            men = board.howManyMen(side);
            isSafe = true;
            for (int from = 0; from < SQUARES && isSafe; from++) {
                isSafe = ((board.reachOf(from, 1 - side) >>> to) & 1L) == 0;
            }
            size = 0;
            int sum = 0;
            for (int i = 0; i < game.codes; i++) {
                int code = at(game.code, i);
                if (code == ADD) {
                    sum += pop();
                } else if (code >= SAFE) {
                    push(told(code));
                } else {
                    push(worked(code));
                }
            }
            return sum;
        }

        private void push(int n) {
            set(stack, size, n);
            size++;
        }

        private int pop() {
            size--;
            return at(stack, size);
        }

        /** A NUMBER, a FACT, or 1 for a TAG that holds. */
        private int told(int code) {
            switch (code) {
                case TOOK:
                    return took;
                case VALUE:
                    return value;
                case NUMBER:
                    return number;
                case MEN:
                    return men;
                case TAKES:
                    return isTaking ? 1 : 0;
                case SAFE:
                    return isSafe ? 1 : 0;
                default:
                    return code;
            }
        }

        private int worked(int code) {
            int right = pop();
            if (code == NOT) {
                return 1 - right;
            }
            int left = pop();
            switch (code) {
                case PLUS:
                    return left + right;
                case TIMES:
                    return left * right;
                case LESS:
                    return left < right ? 1 : 0;
                case MORE:
                    return left > right ? 1 : 0;
                case AND:
                    return left & right;
                case OR:
                    return left | right;
                default:
                    return right == 0 ? 0 : left;
            }
        }
    }

    /** Lays out beginnings of READINGS, and finds what is asked of these. */
    private static final class Search {
        private static final int FIND = 0;
        private static final int PLAY = 1;
        private static final int WEIGH = 2;

        final Game game;
        final Board board;
        final Question question = new Question();
        final Prices prices;
        final Path first = new Path();
        final Path next = new Path();
        final Path best = new Path();
        /** LEAST; NONE; SPENT. */
        int price;
        /** MANY. */
        int found;
        /** The positions that LEAST lays out. */
        int positions;
        /** ODDS, above and below, before a common part is taken off. */
        long having;
        long all;
        private final Scale scale = new Scale();
        private final int[] path = new int[MOST_MOVES];
        private final int[] played = new int[MOST_MOVES + 1];
        private int purpose;
        private int laidOut;
        private int deepest;
        private int told;
        private int weighed;

        Search(Game game) {
            this.game = game;
            board = new Board(game);
            prices = new Prices(game, question);
        }

        void findLeast() {
            price = NONE;
            found = 0;
            laidOut = 0;
            best.size = NONE;
            for (int limit = 0; limit <= MOST_LEAST && price == NONE; limit++) {
                begin(limit, FIND);
                layOut(0);
                if (isSpent()) {
                    price = SPENT;
                } else if (told > 0) {
                    price = limit;
                    found = told;
                }
            }
            positions = laidOut;
        }

        /** By PRICE 0 alone: the most MOVES of a beginning; SPENT. */
        int deepestForNothing() {
            laidOut = 0;
            deepest = 0;
            begin(0, FIND);
            layOut(0);
            return isSpent() ? SPENT : deepest;
        }

        void findBest() {
            if (best.size == NONE) {
                laidOut = 0;
                begin(price, PLAY);
                layOut(0);
            }
        }

        /** ODDS of MOVE i, as having and all; false, if that is SPENT. */
        boolean weighs(int i, int width) {
            weighed = i;
            // With no WIDTH nothing more is laid out than LEAST has been, so that is not paid again.
            laidOut = width == 0 ? 0 : positions;
            for (int limit = width == 0 ? price : price + 1; limit <= price + width && !isSpent(); limit++) {
                having = 0;
                all = 0;
                begin(limit, WEIGH);
                layOut(0);
            }
            return !isSpent();
        }

        private boolean isSpent() {
            return laidOut > MOST_POSITIONS;
        }

        private void begin(int limit, int purpose) {
            this.purpose = purpose;
            told = 0;
            board.setUp();
            prices.begin(limit);
        }

        /** Lays out the beginning that stands on the board, and all that go on from it. */
        private void layOut(int moves) {
            laidOut++;
            deepest = Math.max(deepest, moves);
            if (isSpent() || question.isBarred(game, board, moves)) {
                return;
            }
            tell(moves);
            boolean isLast = moves >= MOST_MOVES || moves >= question.mostMoves(game);
            long hopeful = isLast ? 0L : prices.hopeful(moves);
            for (int from = 0; from < SQUARES && hopeful != 0 && !isSpent(); from++) {
                long targets = board.reachOf(from, moves & 1) & hopeful;
                int kind = kindOf(at(board.men, from));
                for (int to = 0; to < SQUARES && targets != 0 && !isSpent(); to++) {
                    int move = SQUARES * from + to;
                    if (((targets >>> to) & 1L) != 0 && prices.withMove(moves, kind, move) <= prices.limit) {
                        int taken = board.go(move);
                        set(path, moves, move);
                        if (purpose == PLAY) {
                            int sum = at(played, moves) + scale.weigh(game, board, move, taken, moves + 1);
                            set(played, moves + 1, sum);
                        }
                        layOut(moves + 1);
                        board.goBack(move, taken);
                    }
                }
            }
        }

        /** Takes up the beginning of so many MOVES, if it is a READING of a PRICE to the limit. */
        private void tell(int moves) {
            int sum = prices.whole(moves);
            if (sum > prices.limit || !question.isLongEnough(game, moves)) {
                return;
            }
            told++;
            if (purpose == WEIGH) {
                long weight = 1L << 2 * (prices.limit - sum);
                boolean isHad = weighed < moves && at(path, weighed) == first.tell(weighed);
                all += weight;
                having += isHad ? weight : 0;
            } else if (purpose == PLAY) {
                int total = at(played, moves);
                if (told <= MOST_PLAYED && (told == 1 || total < best.played)) {
                    best.keep(path, moves, total);
                }
            } else if (told <= 2) {
                Path which = told == 1 ? first : next;
                which.keep(path, moves, 0);
            }
        }
    }

    /** Of FIRST: which NOTE each MOVE has in each BOOK, and with which SLIP. */
    private static final class Trace {
        private final Game game;
        private final Search search;
        private final Board board;
        boolean isFollowed;
        private final int[] slipsOfNotes = new int[MOST_BOOKS * MOST_NOTES];
        private final int[] notesOfMoves = new int[MOST_BOOKS * MOST_MOVES];
        private final int[] kindsOfMoves = new int[MOST_MOVES];

        Trace(Game game, Search search) {
            this.game = game;
            this.search = search;
            board = new Board(game);
        }

        void follow() {
            if (isFollowed) {
                return;
            }
            isFollowed = true;
            board.setUp();
            search.prices.begin(search.price);
            for (int n = 0; n < search.first.size; n++) {
                int move = search.first.tell(n);
                int kind = kindOf(at(board.men, move / SQUARES));
                set(kindsOfMoves, n, kind);
                search.prices.withMove(n, kind, move);
                board.go(move);
            }
            Arrays.fill(notesOfMoves, NONE);
            for (int book = 0; book < game.books; book++) {
                followBack(book);
            }
        }

        private void followBack(int book) {
            int moves = search.first.size;
            int notes = game.notesOf(book);
            // Each round takes a MOVE or a NOTE off.
            for (int n = 0; n < MOST_MOVES + MOST_NOTES && moves + notes > 0; n++) {
                int slip = slipOfLast(book, moves, notes);
                if (slip == LOST) {
                    moves--;
                } else {
                    notes--;
                    set(slipsOfNotes, book * MOST_NOTES + notes, slip);
                    if (slip != TWICE) {
                        moves--;
                        set(notesOfMoves, book * MOST_MOVES + moves, notes);
                    }
                }
            }
        }

        /** How so many MOVES and NOTES end: a NOTE of the last MOVE, a LOST MOVE, a NOTE that is TWICE. */
        private int slipOfLast(int book, int moves, int notes) {
            Prices prices = search.prices;
            int price = prices.cell(moves, book, notes);
            if (moves > 0 && notes > 0) {
                int slip = prices.slipOf(book, notes - 1, at(kindsOfMoves, moves - 1),
                        search.first.tell(moves - 1), (moves - 1) & 1);
                if (slip != NONE
                        && prices.cell(moves - 1, book, notes - 1) + at(prices.question.prices, slip) == price) {
                    return slip;
                }
            }
            int lost = at(prices.question.prices, LOST);
            boolean isLost = moves > 0 && lost > 0 && prices.cell(moves - 1, book, notes) + lost == price;
            return isLost || notes == 0 ? LOST : TWICE;
        }

        int slipOfNote(int book, int note) {
            return at(slipsOfNotes, book * MOST_NOTES + note);
        }

        int howManySlips(int book, int slip) {
            int sum = 0;
            if (slip == LOST) {
                for (int n = 0; n < search.first.size; n++) {
                    sum += slipOfMove(book, n) == LOST ? 1 : 0;
                }
                return sum;
            }
            for (int n = 0; n < game.notesOf(book); n++) {
                sum += slipOfNote(book, n) == slip ? 1 : 0;
            }
            return sum;
        }

        /** 0 to 5, or LOST. */
        private int slipOfMove(int book, int move) {
            int note = noteOfMove(book, move);
            return note == NONE ? LOST : slipOfNote(book, note);
        }

        private int noteOfMove(int book, int move) {
            return at(notesOfMoves, book * MOST_MOVES + move);
        }

        private static boolean isSlipOfNote(int slip) {
            return slip >= KIND_SLIP && slip <= FROM_SLIP;
        }

        int howManyShared(int one, int other) {
            int sum = 0;
            for (int n = 0; n < search.first.size; n++) {
                int slip = slipOfMove(one, n);
                if (isSlipOfNote(slip) && slip == slipOfMove(other, n)
                        && game.isLikeButForFrom(one, noteOfMove(one, n), other, noteOfMove(other, n))) {
                    sum++;
                }
            }
            return sum;
        }

        /** MOVES whose NOTE in the other has a SLIP, while that in the one has none, or there is none. */
        int howManyOwn(int one, int other) {
            int sum = 0;
            for (int n = 0; n < search.first.size; n++) {
                int slip = slipOfMove(one, n);
                sum += isSlipOfNote(slipOfMove(other, n)) && (slip == 0 || slip == LOST) ? 1 : 0;
            }
            return sum;
        }
    }
}
