import java.util.ArrayList;
import java.util.Arrays;
import java.util.HashMap;
import java.util.List;
import java.util.Map;
import java.util.NoSuchElementException;
import java.util.TreeSet;
import java.util.function.Predicate;
import java.util.function.ToIntFunction;

/**
 * The document once more, written as plainly as can be and with no thought of speed or room, to hold MoveNotes against.
 * It shares no code with the class, and does most things another way (lists of objects, prices pushed forward, a tree of
 * conditions instead of a row of numbers).
 */
final class Oracle {
    record Line(String word, int far) { }

    record Kind(int value, List<Line> lines) { }

    record Note(int kind, int from, int file, int rank) { }

    record Book(int way, List<Note> notes) { }

    record Picture(int moves, int square, int kind, int side) { }

    record Man(int kind, int side) { }

    record Facts(boolean takes, int took, int value, boolean safe, int number, int men) { }

    record Added(int number, ToIntFunction<Facts> fact, Predicate<Facts> when) { }

    /** A beginning of READINGS: the men behind it, and for each asked BOOK the prices by how many NOTES are of it. */
    record Beginning(List<Integer> moves, Man[] men, int[][] prices) { }

    record Reading(List<Integer> moves, int price) { }

    /** What a question asks about: the BOOKS with their WAYS, the PRICES, THE LENGTH and PICTURES. */
    record Question(List<Book> books, int[] prices, int length, List<Picture> pictures) { }

    /** LEAST (NONE, -2), how many positions it lays out, and the READINGS of it in order. */
    record Found(int least, int positions, List<Reading> readings) { }

    private static final int FAR = 100000;

    // ---- what has been told ----
    private List<Kind> kinds = new ArrayList<>();
    private Man[] start = new Man[36];
    private List<Book> books = new ArrayList<>();
    private int[] prices = new int[8];
    private int length = -1;
    private List<Picture> pictures = new ArrayList<>();
    private List<Added> measure = new ArrayList<>();
    private final List<Integer> tape = new ArrayList<>();
    private int wrong = -1;
    private Oracle kept;
    private Found known;

    private void become(Oracle o) {
        kinds = new ArrayList<>(o.kinds);
        start = o.start.clone();
        books = new ArrayList<>();
        for (Book b : o.books) {
            books.add(new Book(b.way(), new ArrayList<>(b.notes())));
        }
        prices = o.prices.clone();
        length = o.length;
        pictures = new ArrayList<>(o.pictures);
        measure = new ArrayList<>(o.measure);
        known = null;
    }

    // ---- texts ----

    int feed(int... five) {
        if (tape.size() + 20 > 400) {
            return -1;
        }
        for (int n : five) {
            tape.add((n >> 24) & 255);
            tape.add((n >> 16) & 255);
            tape.add((n >> 8) & 255);
            tape.add(n & 255);
        }
        return tape.size();
    }

    boolean end(int n) {
        if (n < 0 || tape.size() < n) {
            return false;
        }
        while (tape.size() > n) {
            tape.remove(tape.size() - 1);
        }
        return true;
    }

    /** Where a text is wrong. */
    private static final class Wrong extends RuntimeException {
        private static final long serialVersionUID = 1;
        final int where;

        Wrong(int where) {
            super(null, null, false, false);
            this.where = where;
        }
    }

    /** A text, read from the left. */
    private static final class Reader {
        final StringBuilder text = new StringBuilder();
        int i;

        Reader(List<Integer> bytes) {
            for (int b : bytes) {
                text.append((char) b);
            }
        }

        void blanks() {
            while (i < text.length() && text.charAt(i) == ' ') {
                i++;
            }
        }

        /** The next token as it stands; "" at the end. */
        String ahead() {
            blanks();
            int j = i;
            if (j == text.length()) {
                return "";
            }
            String sort = sortOf(text.charAt(j));
            j++;
            while (!sort.isEmpty() && j < text.length() && sortOf(text.charAt(j)).equals(sort)) {
                j++;
            }
            return text.substring(i, j);
        }

        static String sortOf(char c) {
            return c >= 'a' && c <= 'z' ? "word" : c >= '0' && c <= '9' ? "number" : "";
        }

        boolean sees(String token) {
            return ahead().equals(token);
        }

        boolean takes(String token) {
            if (sees(token)) {
                i += token.length();
                return true;
            }
            return false;
        }

        Wrong wrong() {
            blanks();
            return new Wrong(i);
        }

        void must(String token) {
            if (!takes(token)) {
                throw wrong();
            }
        }

        int number(int low, int high) {
            String token = ahead();
            if (token.isEmpty() || !sortOf(token.charAt(0)).equals("number") || token.length() > 3
                    || Integer.parseInt(token) < low || Integer.parseInt(token) > high) {
                throw wrong();
            }
            i += token.length();
            return Integer.parseInt(token);
        }

        boolean seesNumber() {
            String token = ahead();
            return !token.isEmpty() && sortOf(token.charAt(0)).equals("number");
        }
    }

    private List<Line> kindText(Reader r) {
        List<Line> lines = new ArrayList<>();
        if (r.sees("")) {
            return lines;
        }
        do {
            String word = r.ahead();
            if (lines.size() == 6 || !List.of("straight", "slant", "ahead", "leap", "bite").contains(word)) {
                throw r.wrong();
            }
            r.takes(word);
            lines.add(new Line(word, word.equals("leap") || word.equals("bite") ? 1 : r.number(1, 5)));
        } while (r.takes(";"));
        r.must("");
        return lines;
    }

    private List<Added> measureText(Reader r) {
        List<Added> lines = new ArrayList<>();
        if (r.sees("")) {
            return lines;
        }
        do {
            if (lines.size() == 10) {
                throw r.wrong();
            }
            r.must("add");
            int number = r.number(0, 999);
            ToIntFunction<Facts> fact = f -> 1;
            if (r.takes("*")) {
                fact = fact(r);
            }
            Predicate<Facts> when = f -> true;
            if (r.takes("if")) {
                when = any(r, 0);
            }
            lines.add(new Added(number, fact, when));
        } while (r.takes(";"));
        r.must("");
        return lines;
    }

    private ToIntFunction<Facts> fact(Reader r) {
        switch (r.ahead()) {
            case "took":
                r.takes("took");
                return Facts::took;
            case "value":
                r.takes("value");
                return Facts::value;
            case "number":
                r.takes("number");
                return Facts::number;
            case "men":
                r.takes("men");
                return Facts::men;
            default:
                throw r.wrong();
        }
    }

    private Predicate<Facts> any(Reader r, int deep) {
        Predicate<Facts> all = all(r, deep);
        while (r.takes("or")) {
            all = all.or(all(r, deep));
        }
        return all;
    }

    private Predicate<Facts> all(Reader r, int deep) {
        Predicate<Facts> atom = atom(r, deep);
        while (r.takes("and")) {
            atom = atom.and(atom(r, deep));
        }
        return atom;
    }

    private Predicate<Facts> atom(Reader r, int deep) {
        if ((r.sees("not") || r.sees("(")) && deep == 6) {
            throw r.wrong();
        }
        if (r.takes("not")) {
            return atom(r, deep + 1).negate();
        }
        if (r.takes("(")) {
            Predicate<Facts> inner = any(r, deep + 1);
            r.must(")");
            return inner;
        }
        if (r.takes("takes")) {
            return Facts::takes;
        }
        if (r.takes("safe")) {
            return Facts::safe;
        }
        ToIntFunction<Facts> left = sum(r);
        boolean less = r.takes("<");
        if (!less) {
            r.must(">");
        }
        ToIntFunction<Facts> right = sum(r);
        return less ? f -> left.applyAsInt(f) < right.applyAsInt(f) : f -> left.applyAsInt(f) > right.applyAsInt(f);
    }

    private ToIntFunction<Facts> sum(Reader r) {
        List<ToIntFunction<Facts>> parts = new ArrayList<>();
        do {
            if (r.seesNumber()) {
                int n = r.number(0, 999);
                parts.add(f -> n);
            } else {
                parts.add(fact(r));
            }
        } while (r.takes("+"));
        return f -> parts.stream().mapToInt(p -> p.applyAsInt(f)).sum();
    }

    int kind(int value) {
        Reader r = new Reader(tape);
        tape.clear();
        wrong = -1;
        List<Line> lines = null;
        try {
            lines = kindText(r);
        } catch (Wrong w) {
            wrong = w.where;
        }
        if (lines == null || value < 0 || value > 20) {
            throw new IllegalArgumentException();
        }
        if (kinds.size() == 5) {
            throw new UnsupportedOperationException();
        }
        kinds.add(new Kind(value, lines));
        known = null;
        return kinds.size() - 1;
    }

    int measure() {
        Reader r = new Reader(tape);
        tape.clear();
        wrong = -1;
        try {
            measure = measureText(r);
        } catch (Wrong w) {
            wrong = w.where;
            throw new IllegalArgumentException(w);
        }
        return measure.size();
    }

    int fault() {
        return wrong;
    }

    // ---- the board ----

    private void mustBe(boolean is) {
        if (!is) {
            throw new IndexOutOfBoundsException();
        }
    }

    private void mustSuit(boolean is) {
        if (!is) {
            throw new IllegalArgumentException();
        }
    }

    private void mustHaveRoom(boolean is) {
        if (!is) {
            throw new UnsupportedOperationException();
        }
    }

    private static boolean within(int n, int low, int high) {
        return n >= low && n <= high;
    }

    void put(int square, int kind, int side) {
        mustBe(within(square, 0, 35) && within(kind, -1, kinds.size() - 1));
        mustSuit(kind == -1 || within(side, 0, 1));
        start[square] = kind == -1 ? null : new Man(kind, side);
        known = null;
    }

    private static Man manAt(Man[] men, int rank, int file) {
        return within(rank, 0, 5) && within(file, 0, 5) ? men[6 * rank + file] : null;
    }

    private void walk(Man[] men, int from, int[] step, int far, boolean enters, boolean takes, TreeSet<Integer> found) {
        for (int n = 1; n <= far; n++) {
            int rank = from / 6 + n * step[0];
            int file = from % 6 + n * step[1];
            if (!within(rank, 0, 5) || !within(file, 0, 5)) {
                return;
            }
            Man there = manAt(men, rank, file);
            boolean may = there == null ? enters : takes && there.side() != men[from].side();
            if (may) {
                found.add(36 * from + 6 * rank + file);
            }
            if (there != null) {
                return;
            }
        }
    }

    private TreeSet<Integer> movesOf(Man[] men, int side) {
        TreeSet<Integer> found = new TreeSet<>();
        for (int from = 0; from < 36; from++) {
            if (men[from] == null || men[from].side() != side) {
                continue;
            }
            int ahead = side == 0 ? 1 : -1;
            for (Line line : kinds.get(men[from].kind()).lines()) {
                for (int r = -2; r <= 2; r++) {
                    for (int f = -2; f <= 2; f++) {
                        int both = Math.abs(r) + Math.abs(f);
                        boolean straight = both == 1;
                        boolean slant = Math.abs(r) == 1 && Math.abs(f) == 1;
                        boolean leap = both == 3;
                        int[] step = {r, f};
                        if (line.word().equals("straight") && straight || line.word().equals("slant") && slant
                                || line.word().equals("leap") && leap) {
                            walk(men, from, step, line.far(), true, true, found);
                        }
                        if (line.word().equals("ahead") && straight && r == ahead) {
                            walk(men, from, step, line.far(), true, false, found);
                        }
                        if (line.word().equals("bite") && slant && r == ahead) {
                            walk(men, from, step, 1, false, true, found);
                        }
                    }
                }
            }
        }
        return found;
    }

    private static Man[] after(Man[] men, int move) {
        Man[] next = men.clone();
        next[move % 36] = next[move / 36];
        next[move / 36] = null;
        return next;
    }

    int moves(int side, int i) {
        mustSuit(within(side, 0, 1) && i >= -1);
        List<Integer> all = new ArrayList<>(movesOf(start, side));
        return i == -1 ? all.size() : i < all.size() ? all.get(i) : -1;
    }

    // ---- books ----

    int book(int way) {
        mustSuit(within(way, 0, 1));
        mustHaveRoom(books.size() < 3);
        books.add(new Book(way, new ArrayList<>()));
        known = null;
        return books.size() - 1;
    }

    private boolean isBook(int book) {
        return within(book, 0, books.size() - 1);
    }

    private boolean isNote(int book, int note) {
        return isBook(book) && within(note, 0, books.get(book).notes().size() - 1);
    }

    private void mustSuitAsNote(int from, int file, int rank) {
        mustSuit(within(from, -1, 5) && within(file, 0, 5) && within(rank, 0, 5));
    }

    int note(int book, int kind, int from, int file, int rank) {
        mustBe(isBook(book) && within(kind, 0, kinds.size() - 1));
        mustSuitAsNote(from, file, rank);
        mustHaveRoom(books.get(book).notes().size() < 24);
        books.get(book).notes().add(new Note(kind, from, file, rank));
        known = null;
        return books.get(book).notes().size() - 1;
    }

    boolean change(int book, int note, int kind, int from, int file, int rank) {
        mustBe(isNote(book, note) && within(kind, 0, kinds.size() - 1));
        mustSuitAsNote(from, file, rank);
        Note now = new Note(kind, from, file, rank);
        known = null;
        return !now.equals(books.get(book).notes().set(note, now));
    }

    int look(int book, int note, int what) {
        mustBe(isNote(book, note));
        Note n = books.get(book).notes().get(note);
        if (!within(what, 0, 3)) {
            throw new NoSuchElementException();
        }
        return List.of(n.kind(), n.from(), n.file(), n.rank()).get(what);
    }

    int write(int way, int moves, int slips, int seed) {
        mustSuit(within(way, 0, 1) && within(moves, 1, 24) && within(slips, 0, 9));
        mustHaveRoom(books.size() < 3);
        List<Note> notes = new ArrayList<>();
        Man[] men = start.clone();
        int[] state = {seed};
        for (int n = 0; n < moves; n++) {
            List<Integer> all = new ArrayList<>(movesOf(men, n % 2));
            if (all.isEmpty()) {
                break;
            }
            int move = all.get(draw(state) % all.size());
            int kind = men[move / 36].kind();
            int file = move % 6;
            int rank = counted(move % 36 / 6, way, n % 2);
            if (draw(state) % 10 < slips) {
                int which = draw(state) % 3;
                kind = which == 0 ? (kind + 1) % kinds.size() : kind;
                file = which == 1 ? (file == 5 ? 4 : file + 1) : file;
                rank = which == 2 ? (rank == 5 ? 4 : rank + 1) : rank;
            }
            notes.add(new Note(kind, -1, file, rank));
            men = after(men, move);
        }
        books.add(new Book(way, notes));
        known = null;
        return books.size() - 1;
    }

    private static int draw(int[] state) {
        state[0] = 1103515245 * state[0] + 12345;
        return (int) ((state[0] & 0xffffffffL) >> 16 & 0x7fff);
    }

    private static int counted(int rank, int way, int side) {
        return way == 0 || side == 0 ? rank : 5 - rank;
    }

    int price(int slip, int n) {
        mustBe(within(slip, 1, 7));
        mustSuit(within(n, 0, 9));
        int was = prices[slip];
        prices[slip] = n;
        known = null;
        return was;
    }

    void length(int n) {
        mustSuit(within(n, -1, 30));
        length = n;
        known = null;
    }

    int picture(int moves, int square, int kind, int side) {
        mustBe(within(square, 0, 35) && within(kind, -1, kinds.size() - 1));
        mustSuit(within(moves, 0, 30) && within(side, 0, 1));
        mustHaveRoom(pictures.size() < 10);
        pictures.add(new Picture(moves, square, kind, side));
        known = null;
        return pictures.size();
    }

    // ---- readings ----

    /** The SLIP of a NOTE for a MOVE of a man; -1, if it does not fit with one that may be. */
    private static int fits(Note note, Man man, int move, int way, int[] prices) {
        int due = counted(move % 36 / 6, way, man.side());
        int file = move % 6;
        boolean kindSo = note.kind() == man.kind();
        boolean fromSo = note.from() == -1 || note.from() == move / 36 % 6;
        boolean fileSo = note.file() == file;
        boolean rankSo = note.rank() == due;
        if (kindSo && fromSo && fileSo && rankSo) {
            return 0;
        }
        boolean[] fit = new boolean[6];
        fit[1] = !kindSo && fromSo && fileSo && rankSo;
        fit[2] = kindSo && fromSo && Math.abs(note.file() - file) == 1 && rankSo;
        fit[3] = kindSo && fromSo && fileSo && Math.abs(note.rank() - due) == 1;
        fit[4] = kindSo && fromSo && fileSo && !rankSo && 5 - note.rank() == due;
        fit[5] = kindSo && !fromSo && fileSo && rankSo;
        int slip = -1;
        for (int s = 1; s <= 5; s++) {
            if (fit[s] && prices[s] > 0 && (slip == -1 || prices[s] < prices[slip])) {
                slip = s;
            }
        }
        return slip;
    }

    private static boolean isTwice(Book book, int note) {
        return note > 0 && book.notes().get(note).equals(book.notes().get(note - 1));
    }

    private Beginning startOf(Question q) {
        int[][] rows = new int[q.books().size()][];
        for (int b = 0; b < rows.length; b++) {
            rows[b] = new int[q.books().get(b).notes().size() + 1];
            Arrays.fill(rows[b], FAR);
            rows[b][0] = 0;
        }
        return new Beginning(List.of(), start, rows);
    }

    private static Beginning withMove(Question q, Beginning before, int move) {
        int[][] rows = new int[q.books().size()][];
        Man man = before.men()[move / 36];
        for (int b = 0; b < rows.length; b++) {
            Book book = q.books().get(b);
            int[] old = before.prices()[b];
            int[] row = new int[old.length];
            Arrays.fill(row, FAR);
            for (int n = 0; n < old.length; n++) {
                if (q.prices()[6] > 0) {
                    row[n] = Math.min(row[n], old[n] + q.prices()[6]);
                }
                if (n < book.notes().size()) {
                    int slip = fits(book.notes().get(n), man, move, book.way(), q.prices());
                    if (slip >= 0) {
                        row[n + 1] = Math.min(row[n + 1], old[n] + (slip == 0 ? 0 : q.prices()[slip]));
                    }
                    if (q.prices()[7] > 0 && isTwice(book, n)) {
                        row[n + 1] = Math.min(row[n + 1], row[n] + q.prices()[7]);
                    }
                }
            }
            rows[b] = row;
        }
        List<Integer> moves = new ArrayList<>(before.moves());
        moves.add(move);
        return new Beginning(moves, after(before.men(), move), rows);
    }

    private static int priceSoFar(Beginning b) {
        int sum = 0;
        for (int[] row : b.prices()) {
            sum += Math.min(FAR, Arrays.stream(row).min().getAsInt());
        }
        return sum;
    }

    private static int priceOf(Beginning b) {
        int sum = 0;
        for (int[] row : b.prices()) {
            sum += Math.min(FAR, row[row.length - 1]);
        }
        return sum;
    }

    /** Lays out all of a PRICE so far not above p; how many positions (up to a few more than 8000), and the READINGS. */
    private int layOut(Question q, Beginning at, int p, int before, List<Reading> readings) {
        int laid = before + 1;
        if (laid > 8000) {
            return laid;
        }
        int n = at.moves().size();
        boolean enough = true;
        for (Picture x : q.pictures()) {
            enough &= x.moves() <= n;
            Man due = x.kind() == -1 ? null : new Man(x.kind(), x.side());
            Man there = at.men()[x.square()];
            if (x.moves() == n && !(due == null ? there == null : due.equals(there))) {
                return laid;
            }
        }
        if (enough && (q.length() == -1 || q.length() == n) && priceOf(at) <= p) {
            readings.add(new Reading(at.moves(), priceOf(at)));
        }
        if (n == 30 || n == q.length()) {
            return laid;
        }
        for (int move : movesOf(at.men(), n % 2)) {
            Beginning next = withMove(q, at, move);
            if (priceSoFar(next) <= p) {
                laid = layOut(q, next, p, laid, readings);
                if (laid > 8000) {
                    return laid;
                }
            }
        }
        return laid;
    }

    private Question allBooks() {
        return new Question(books, prices, length, pictures);
    }

    private Found find(Question q) {
        int laid = 0;
        for (int p = 0; p <= 20; p++) {
            List<Reading> readings = new ArrayList<>();
            laid = layOut(q, startOf(q), p, laid, readings);
            if (laid > 8000) {
                return new Found(-2, laid, List.of());
            }
            if (!readings.isEmpty()) {
                return new Found(p, laid, readings);
            }
        }
        return new Found(-1, laid, List.of());
    }

    private Found found() {
        if (known == null) {
            known = find(allBooks());
        }
        return known;
    }

    int least() {
        return found().least();
    }

    int many() {
        return least() < 0 ? least() : found().readings().size();
    }

    private static int tell(List<Integer> moves, int i) {
        return i == -1 ? moves.size() : i < moves.size() ? moves.get(i) : -3;
    }

    private List<Integer> first() {
        return found().readings().get(0).moves();
    }

    int read(int i) {
        mustSuit(i >= -1);
        return least() < 0 ? least() : tell(first(), i);
    }

    int readNext(int i) {
        mustSuit(i >= -1);
        return least() < 0 ? least() : many() == 1 ? -3 : tell(found().readings().get(1).moves(), i);
    }

    private List<Man[]> boardsOf(List<Integer> moves) {
        List<Man[]> boards = new ArrayList<>();
        boards.add(start);
        for (int move : moves) {
            boards.add(after(boards.get(boards.size() - 1), move));
        }
        return boards;
    }

    /** The least PRICE of so many MOVES of FIRST and NOTES of a BOOK, by looking back from their end. */
    private int back(Book book, List<Man[]> boards, int m, int n, Map<List<Integer>, Integer> seen) {
        if (m == 0 && n == 0) {
            return 0;
        }
        List<Integer> key = List.of(m, n);
        if (!seen.containsKey(key)) {
            int least = FAR;
            for (int[] way : waysBack(book, boards, m, n)) {
                least = Math.min(least, back(book, boards, way[0], way[1], seen) + way[3]);
            }
            seen.put(key, least);
        }
        return seen.get(key);
    }

    /** How m MOVES and n NOTES may end, in the order that is preferred: MOVES and NOTES before, the SLIP, its PRICE. */
    private List<int[]> waysBack(Book book, List<Man[]> boards, int m, int n) {
        List<int[]> ways = new ArrayList<>();
        if (m > 0 && n > 0) {
            int move = first().get(m - 1);
            int slip = fits(book.notes().get(n - 1), boards.get(m - 1)[move / 36], move, book.way(), prices);
            if (slip >= 0) {
                ways.add(new int[] {m - 1, n - 1, slip, slip == 0 ? 0 : prices[slip]});
            }
        }
        if (m > 0 && prices[6] > 0) {
            ways.add(new int[] {m - 1, n, 6, prices[6]});
        }
        if (n > 0 && prices[7] > 0 && isTwice(book, n - 1)) {
            ways.add(new int[] {m, n - 1, 7, prices[7]});
        }
        return ways;
    }

    /** Of each NOTE of a BOOK in FIRST: its SLIP, and the number of its MOVE (-1, if it is TWICE). */
    private int[][] slipsOfFirst(Book book) {
        List<Man[]> boards = boardsOf(first());
        int[][] slips = new int[book.notes().size()][];
        Map<List<Integer>, Integer> seen = new HashMap<>();
        int m = first().size();
        int n = book.notes().size();
        while (m > 0 || n > 0) {
            int due = back(book, boards, m, n, seen);
            for (int[] way : waysBack(book, boards, m, n)) {
                if (back(book, boards, way[0], way[1], seen) + way[3] == due) {
                    if (way[1] < n) {
                        slips[n - 1] = new int[] {way[2], way[2] == 7 ? -1 : m - 1};
                    }
                    m = way[0];
                    n = way[1];
                    break;
                }
            }
        }
        return slips;
    }

    int slip(int book, int note) {
        mustBe(isNote(book, note));
        return least() < 0 ? least() : slipsOfFirst(books.get(book))[note][0];
    }

    int slips(int book, int slip) {
        mustBe(isBook(book) && within(slip, 1, 7));
        if (least() < 0) {
            return least();
        }
        int[][] slips = slipsOfFirst(books.get(book));
        if (slip == 6) {
            return first().size() - (int) Arrays.stream(slips).filter(s -> s[1] >= 0).count();
        }
        return (int) Arrays.stream(slips).filter(s -> s[0] == slip).count();
    }

    int breaks(int book) {
        mustBe(isBook(book));
        Book b = books.get(book);
        int deepest = 0;
        int laid = 0;
        List<Beginning> now = List.of(startOf(new Question(List.of(b), new int[8], -1, List.of())));
        Question q = new Question(List.of(b), new int[8], -1, List.of());
        for (int n = 0; !now.isEmpty(); n++) {
            deepest = n;
            laid += now.size();
            if (laid > 8000) {
                return -2;
            }
            List<Beginning> next = new ArrayList<>();
            for (Beginning at : now) {
                for (int move : movesOf(at.men(), n % 2)) {
                    Beginning more = withMove(q, at, move);
                    if (priceSoFar(more) == 0) {
                        next.add(more);
                    }
                }
            }
            now = next;
        }
        return deepest == b.notes().size() ? -3 : deepest;
    }

    int brief(int i) {
        mustSuit(i >= 0);
        if (least() < 0) {
            return least();
        }
        if (i >= first().size()) {
            return -3;
        }
        Man[] men = boardsOf(first()).get(i);
        int move = first().get(i);
        int sum = 0;
        for (int other : movesOf(men, i % 2)) {
            sum += men[other / 36].kind() == men[move / 36].kind() && other % 36 == move % 36 ? 1 : 0;
        }
        return sum;
    }

    int part() {
        if (least() < 0) {
            return least();
        }
        if (many() == 1) {
            return -3;
        }
        List<Integer> next = found().readings().get(1).moves();
        for (int i = 0;; i++) {
            if (tell(first(), i) != tell(next, i)) {
                return i;
            }
        }
    }

    private int played(List<Integer> moves) {
        int sum = 0;
        List<Man[]> boards = boardsOf(moves);
        for (int i = 0; i < moves.size(); i++) {
            int from = moves.get(i) / 36;
            int to = moves.get(i) % 36;
            int side = i % 2;
            Man[] then = boards.get(i);
            Man[] behind = boards.get(i + 1);
            int took = then[to] == null ? 0 : kinds.get(then[to].kind()).value();
            boolean safe = movesOf(behind, 1 - side).stream().noneMatch(m -> m % 36 == to);
            int men = (int) Arrays.stream(behind).filter(m -> m != null && m.side() == side).count();
            Facts f = new Facts(then[to] != null, took, kinds.get(then[from].kind()).value(), safe, i + 1, men);
            for (Added a : measure) {
                sum += a.when().test(f) ? a.number() * a.fact().applyAsInt(f) : 0;
            }
        }
        return sum;
    }

    int best(int i) {
        mustSuit(i >= -1);
        if (least() < 0) {
            return least();
        }
        List<Integer> best = null;
        for (Reading r : found().readings().subList(0, Math.min(200, many()))) {
            if (best == null || played(r.moves()) < played(best)) {
                best = r.moves();
            }
        }
        return i == -1 ? played(best) : tell(best, i);
    }

    long odds(int i, int width, boolean below) {
        mustSuit(i >= 0 && within(width, 0, 2));
        if (least() < 0) {
            return least();
        }
        int laid = found().positions();
        List<Reading> readings = found().readings();
        for (int p = least() + 1; p <= least() + width; p++) {
            readings = new ArrayList<>();
            laid = layOut(allBooks(), startOf(allBooks()), p, laid, readings);
            if (laid > 8000) {
                return -2;
            }
        }
        if (i >= first().size()) {
            return -3;
        }
        long having = 0;
        long all = 0;
        for (Reading r : readings) {
            long weight = (long) Math.pow(4, least() + width - r.price());
            all += weight;
            having += tell(r.moves(), i) == first().get(i) ? weight : 0;
        }
        for (long d = all; d > 1; d--) {
            if (all % d == 0 && having % d == 0) {
                all /= d;
                having /= d;
            }
        }
        return below ? all : having;
    }

    int shared(int first, int second, boolean copied) {
        mustBe(isBook(first) && isBook(second));
        if (least() < 0) {
            return least();
        }
        Book one = books.get(first);
        Book two = books.get(second);
        int both = 0;
        int own = 0;
        for (int m = 0; m < first().size(); m++) {
            int a = noteOf(one, m);
            int b = noteOf(two, m);
            int slipA = a == -1 ? 6 : slipsOfFirst(one)[a][0];
            int slipB = b == -1 ? 6 : slipsOfFirst(two)[b][0];
            if (within(slipA, 1, 5) && slipA == slipB) {
                Note x = one.notes().get(a);
                Note y = two.notes().get(b);
                both += x.kind() == y.kind() && x.file() == y.file() && x.rank() == y.rank() ? 1 : 0;
            }
            own += within(slipB, 1, 5) && (slipA == 0 || slipA == 6) ? 1 : 0;
        }
        return copied ? (both > own ? 1 : 0) : both;
    }

    private int noteOf(Book book, int move) {
        int[][] slips = slipsOfFirst(book);
        for (int n = 0; n < slips.length; n++) {
            if (slips[n][1] == move) {
                return n;
            }
        }
        return -1;
    }

    int alike(int first, int second) {
        mustBe(isBook(first) && isBook(second));
        return alike(books.get(first).notes(), books.get(second).notes(), new HashMap<>());
    }

    private int alike(List<Note> a, List<Note> b, Map<List<Integer>, Integer> seen) {
        if (a.isEmpty() || b.isEmpty()) {
            return 0;
        }
        List<Integer> key = List.of(a.size(), b.size());
        if (!seen.containsKey(key)) {
            List<Note> restA = a.subList(1, a.size());
            List<Note> restB = b.subList(1, b.size());
            int most = Math.max(alike(restA, b, seen), alike(a, restB, seen));
            if (a.get(0).equals(b.get(0))) {
                most = Math.max(most, 1 + alike(restA, restB, seen));
            }
            seen.put(key, most);
        }
        return seen.get(key);
    }

    int way(int book) {
        mustBe(isBook(book));
        int[] least = new int[2];
        for (int way = 0; way < 2; way++) {
            Book b = new Book(way, books.get(book).notes());
            least[way] = find(new Question(List.of(b), prices, length, pictures)).least();
        }
        if (least[0] == -2 || least[1] == -2) {
            return -2;
        }
        int asIs = least[0] == -1 ? FAR : least[0];
        int turned = least[1] == -1 ? FAR : least[1];
        return asIs == turned ? -3 : asIs < turned ? 0 : 1;
    }

    int cheaper(int slip) {
        mustBe(within(slip, 1, 7));
        if (least() < 0) {
            return least();
        }
        if (prices[slip] <= 1) {
            return 0;
        }
        int[] other = prices.clone();
        other[slip] = 1;
        int then = find(new Question(books, other, length, pictures)).least();
        return then == -2 ? -2 : least() - then;
    }

    void image() {
        kept = new Oracle();
        kept.become(this);
    }

    boolean back() {
        if (kept == null) {
            return false;
        }
        become(kept);
        return true;
    }

    int count(int what) {
        switch (what) {
            case 0:
                return kinds.size();
            case 1:
                return (int) Arrays.stream(start).filter(m -> m != null).count();
            case 2:
                return books.size();
            case 3:
                return books.stream().mapToInt(b -> b.notes().size()).sum();
            case 4:
                return pictures.size();
            case 5:
                return length;
            case 6:
                return least() == -2 ? -2 : found().positions();
            case 7:
                return Arrays.stream(start).filter(m -> m != null).mapToInt(m -> kinds.get(m.kind()).value()).sum();
            default:
                return -1;
        }
    }
}
