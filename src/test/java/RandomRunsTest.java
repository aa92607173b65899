import java.util.ArrayList;
import java.util.List;
import java.util.Random;

/** Runs of calls by draws, each answer (or exception) held against the Oracle's. */
public final class RandomRunsTest {
    private static final String[] KIND_LINES = {"straight 1", "straight 2", "straight 5", "slant 1", "slant 3", "ahead 1",
        "ahead 2", "leap", "bite", "ahead 5"};
    private static final String[] ODD_WORDS = {"add", "if", "and", "or", "not", "takes", "safe", "took", "value", "number",
        "men", "straight", "slant", "ahead", "leap", "bite", "(", ")", "+", "*", "<", ">", ";", "1", "5", "0", "6", "37",
        "999", "1000", "addd", "ad", "-", "\u00e9", "A", "\u0000", "t"};

    private final Random random;
    private final MoveNotes x = new MoveNotes();
    private final Oracle o = new Oracle();
    private final List<String> told = new ArrayList<>();
    private final String name;
    private boolean isSame = true;
    private static int calls;
    private static final int[] ENDS = new int[4];
    private static final java.util.Map<String, Integer> ANSWERS = new java.util.TreeMap<>();

    private RandomRunsTest(String name, long seed) {
        this.name = name;
        random = new Random(seed);
    }

    public static void main(String[] args) {
        int runs = args.length > 0 ? Integer.parseInt(args[0]) : 150;
        long from = args.length > 1 ? Long.parseLong(args[1]) : 1;
        Checks checks = new Checks("RandomRunsTest");
        for (long seed = from; seed < from + runs; seed++) {
            RandomRunsTest run = new RandomRunsTest("run " + seed, seed);
            checks.isTrue("run " + seed, run.goes());
        }
        if (args.length > 2) {
            System.out.println(ANSWERS);
        }
        System.out.println("RandomRunsTest: " + calls + " calls");
        checks.end();
    }

    private boolean goes() {
        setUp();
        int most = 60 + n(60);
        for (int i = 0; i < most && isSame; i++) {
            if (n(3) != 0 && o.least() == -1) {
                same("back()", () -> x.back() ? 1 : 0, () -> o.back() ? 1 : 0);
            }
            if (n(100) < 25) {
                change();
            } else {
                ask();
            }
        }
        return isSame;
    }

    private void setUp() {
        int kinds = 1 + n(3);
        for (int k = 0; k < kinds; k++) {
            kind(kindText(1 + n(3)), n(21));
        }
        int men = 2 + n(4);
        for (int m = 0; m < men; m++) {
            put(n(36), n(kinds), m % 2);
        }
        if (n(2) == 0) {
            measure(measureText());
        }
        int priced = n(3) == 0 ? 2 : 7;
        for (int p = 1; p <= priced; p++) {
            price(n(2) == 0 ? p : 1 + n(7), n(6));
        }
        int books = 1 + n(3);
        int seed = random.nextInt();
        int moves = n(8) == 0 ? 1 + n(24) : 1 + n(5);
        for (int b = 0; b < books; b++) {
            int way = n(2);
            int slips = n(2) == 0 ? n(10) : 0;
            if (n(3) == 0) {
                seed = random.nextInt();
            }
            int drawn = seed;
            same("write(" + way + "," + moves + "," + slips + "," + drawn + ")", () -> x.write(way, moves, slips, drawn),
                    () -> o.write(way, moves, slips, drawn));
        }
        same("image()", Checks.of(x::image), Checks.of(o::image));
    }

    private int n(int bound) {
        return random.nextInt(bound);
    }

    /** Mostly within, now and then just outside. */
    private int near(int low, int high) {
        if (n(25) == 0) {
            return n(3) == 0 ? random.nextInt() : n(2) == 0 ? low - 1 : high + 1;
        }
        return high < low ? low : low + n(high - low + 1);
    }

    private void same(String what, Checks.Call mine, Checks.Call due) {
        calls++;
        told.add(what);
        String got = Checks.outcome(mine);
        String right = Checks.outcome(due);
        String sort = what.substring(0, what.indexOf('(')) + " "
                + (got.length() > 4 || got.startsWith("-") ? got : got.equals("0") ? "0" : "n");
        ANSWERS.merge(sort, 1, Integer::sum);
        if (!got.equals(right) && isSame) {
            isSame = false;
            System.out.println(name + ": " + what + " answered " + got + ", due is " + right + "; the calls: " + told);
        }
    }

    private void feed(String text) {
        for (int i = 0; i < text.length(); i += 20) {
            int[] f = new int[5];
            for (int j = 0; j < 20; j++) {
                int b = i + j < text.length() ? text.charAt(i + j) : 0;
                f[j / 4] |= b << 24 - j % 4 * 8;
            }
            same("feed(" + f[0] + "," + f[1] + "," + f[2] + "," + f[3] + "," + f[4] + ")",
                    () -> x.feed(f[0], f[1], f[2], f[3], f[4]), () -> o.feed(f));
        }
        same("end(" + text.length() + ")", () -> x.end(text.length()) ? 1 : 0, () -> o.end(text.length()) ? 1 : 0);
    }

    private void kind(String text, int value) {
        feed(text);
        same("kind(" + value + ")", () -> x.kind(value), () -> o.kind(value));
        same("fault()", x::fault, o::fault);
    }

    private void measure(String text) {
        feed(text);
        same("measure()", x::measure, o::measure);
        same("fault()", x::fault, o::fault);
    }

    private void put(int square, int kind, int side) {
        same("put(" + square + "," + kind + "," + side + ")", Checks.of(() -> x.put(square, kind, side)),
                Checks.of(() -> o.put(square, kind, side)));
    }

    private void price(int slip, int n) {
        same("price(" + slip + "," + n + ")", () -> x.price(slip, n), () -> o.price(slip, n));
    }

    private String blanks() {
        return " ".repeat(n(8) == 0 ? n(3) : 1);
    }

    private String kindText(int lines) {
        StringBuilder s = new StringBuilder();
        for (int i = 0; i < lines; i++) {
            s.append(i == 0 ? "" : ";" + blanks()).append(KIND_LINES[n(KIND_LINES.length)]);
        }
        return s.toString();
    }

    private String oddText() {
        StringBuilder s = new StringBuilder(n(2) == 0 ? "add 1 if " : "");
        int words = n(10);
        for (int i = 0; i < words; i++) {
            s.append(ODD_WORDS[n(ODD_WORDS.length)]).append(" ".repeat(n(3)));
        }
        return s.toString();
    }

    private String measureText() {
        StringBuilder s = new StringBuilder();
        int lines = n(4);
        for (int i = 0; i < lines; i++) {
            s.append(i == 0 ? "" : ";").append(blanks()).append("add").append(blanks()).append(n(n(2) == 0 ? 10 : 1000));
            if (n(2) == 0) {
                s.append(blanks()).append("*").append(blanks()).append(fact());
            }
            if (n(4) != 0) {
                s.append(" if ").append(any(0));
            }
        }
        // A wrong byte now and then.
        if (n(6) == 0 && s.length() > 0) {
            s.setCharAt(n(s.length()), ODD_WORDS[n(ODD_WORDS.length)].charAt(0));
        }
        return s.length() > 380 ? s.substring(0, 380) : s.toString();
    }

    private String fact() {
        return new String[] {"took", "value", "number", "men"}[n(4)];
    }

    private String any(int deep) {
        StringBuilder s = new StringBuilder(all(deep));
        while (n(4) == 0) {
            s.append(" or ").append(all(deep));
        }
        return s.toString();
    }

    private String all(int deep) {
        StringBuilder s = new StringBuilder(atom(deep));
        while (n(4) == 0) {
            s.append(" and ").append(atom(deep));
        }
        return s.toString();
    }

    private String atom(int deep) {
        switch (deep > 7 ? 2 + n(4) : n(6)) {
            case 0:
                return "not" + blanks() + " " + atom(deep + 1);
            case 1:
                return "(" + blanks() + any(deep + 1) + blanks() + ")";
            case 2:
                return "takes";
            case 3:
                return "safe";
            default:
                return sum() + blanks() + (n(2) == 0 ? "<" : ">") + blanks() + sum();
        }
    }

    private String sum() {
        StringBuilder s = new StringBuilder(n(2) == 0 ? fact() : Integer.toString(n(20)));
        while (n(4) == 0) {
            s.append("+").append(n(2) == 0 ? fact() : Integer.toString(n(20)));
        }
        return s.toString();
    }

    private int lastOf(int what) {
        return o.count(what) - 1;
    }

    private void change() {
        switch (n(16)) {
            case 0:
                kind(n(3) == 0 ? oddText() : kindText(n(8)), near(0, 20));
                break;
            case 1:
                measure(n(4) == 0 ? oddText() : measureText());
                break;
            case 2:
            case 3:
                put(near(0, 35), n(2) == 0 ? -1 : near(-1, lastOf(0)), near(0, 1));
                break;
            case 4:
                int way = near(0, 1);
                same("book(" + way + ")", () -> x.book(way), () -> o.book(way));
                break;
            case 5:
                note();
                break;
            case 6:
            case 7:
                changeNote();
                break;
            case 8:
                int slips = near(0, 9);
                int moves = near(1, n(3) == 0 ? 24 : 4);
                int seed = random.nextInt();
                int how = near(0, 1);
                same("write(" + how + "," + moves + "," + slips + "," + seed + ")", () -> x.write(how, moves, slips, seed),
                        () -> o.write(how, moves, slips, seed));
                break;
            case 9:
            case 10:
                price(near(1, 7), near(0, n(3) == 0 ? 9 : 3));
                break;
            case 11:
                int length = n(3) == 0 ? -1 : near(-1, n(5) == 0 ? 30 : 6);
                same("length(" + length + ")", Checks.of(() -> x.length(length)), Checks.of(() -> o.length(length)));
                break;
            case 12:
                picture();
                break;
            case 13:
                if (o.least() >= 0 || n(4) == 0) {
                    same("image()", Checks.of(x::image), Checks.of(o::image));
                }
                break;
            default:
                same("back()", () -> x.back() ? 1 : 0, () -> o.back() ? 1 : 0);
        }
    }

    private void note() {
        int book = near(0, lastOf(2));
        if (n(4) != 0) {
            copyNote(book, 1 + n(4));
            return;
        }
        int kind = near(0, lastOf(0));
        int from = n(2) == 0 ? -1 : near(-1, 5);
        int file = near(0, 5);
        int rank = near(0, 5);
        same("note(" + book + "," + kind + "," + from + "," + file + "," + rank + ")",
                () -> x.note(book, kind, from, file, rank), () -> o.note(book, kind, from, file, rank));
    }

    private void changeNote() {
        int book = near(0, lastOf(2));
        int note = near(0, 4);
        int kind = near(0, lastOf(0));
        int from = n(2) == 0 ? -1 : near(-1, 5);
        int file = near(0, 5);
        int rank = near(0, 5);
        if (n(3) == 0) {
            copyNote(book, note);
            return;
        }
        if (n(4) != 0) {
            slipInNote(book, note);
            return;
        }
        same("change(" + book + "," + note + "," + kind + "," + from + "," + file + "," + rank + ")",
                () -> x.change(book, note, kind, from, file, rank) ? 1 : 0,
                () -> o.change(book, note, kind, from, file, rank) ? 1 : 0);
    }

    /** A NOTE of a BOOK otherwise in one thing, so that a READING may be left. */
    private void slipInNote(int book, int note) {
        if (Checks.outcome(() -> o.look(book, note, 0)).length() > 2) {
            return;
        }
        int sort = n(5);
        int kind = sort == 0 ? n(o.count(0)) : o.look(book, note, 0);
        int from = sort == 1 ? n(7) - 1 : o.look(book, note, 1);
        int file = o.look(book, note, 2) + (sort == 2 ? n(3) - 1 : 0);
        int turned = sort == 4 ? 5 - o.look(book, note, 3) : o.look(book, note, 3);
        int rank = turned + (sort == 3 ? n(3) - 1 : 0);
        same("change(" + book + "," + note + "," + kind + "," + from + "," + file + "," + rank + ")",
                () -> x.change(book, note, kind, from, file, rank) ? 1 : 0,
                () -> o.change(book, note, kind, from, file, rank) ? 1 : 0);
    }

    /** Sets a NOTE like the one ahead of it, so that TWICE comes up, or like one in another BOOK. */
    private void copyNote(int book, int note) {
        int other = n(2) == 0 ? book : near(0, lastOf(2));
        int which = other == book ? note - 1 : note;
        String kind = Checks.outcome(() -> o.look(other, which, 0));
        String file = Checks.outcome(() -> o.look(other, which, 2));
        String rank = Checks.outcome(() -> o.look(other, which, 3));
        String from = n(3) == 0 ? "" + near(-1, 5) : Checks.outcome(() -> o.look(other, which, 1));
        if (kind.length() > 2 || from.length() > 2) {
            return;
        }
        int[] cells = {Integer.parseInt(kind), Integer.parseInt(from), Integer.parseInt(file), Integer.parseInt(rank)};
        same("change(" + book + "," + note + "," + kind + "," + from + "," + file + "," + rank + ")",
                () -> x.change(book, note, cells[0], cells[1], cells[2], cells[3]) ? 1 : 0,
                () -> o.change(book, note, cells[0], cells[1], cells[2], cells[3]) ? 1 : 0);
        if (n(2) == 0) {
            same("note(" + book + "," + kind + "," + from + "," + file + "," + rank + ")",
                    () -> x.note(book, cells[0], cells[1], cells[2], cells[3]),
                    () -> o.note(book, cells[0], cells[1], cells[2], cells[3]));
        }
    }

    private void picture() {
        if (n(3) != 0) {
            truePicture();
            return;
        }
        int moves = near(0, n(3) == 0 ? 30 : 3);
        int square = near(0, 35);
        int kind = n(3) == 0 ? -1 : near(-1, lastOf(0));
        int side = near(0, 1);
        same("picture(" + moves + "," + square + "," + kind + "," + side + ")", () -> x.picture(moves, square, kind, side),
                () -> o.picture(moves, square, kind, side));
    }

    /** A PICTURE of the SQUARE that MOVE i of FIRST leaves or goes to, so that READINGS may be left. */
    private void truePicture() {
        int i = n(3);
        String move = Checks.outcome(() -> o.read(i));
        if (move.startsWith("-")) {
            return;
        }
        int square = Integer.parseInt(move) / 36;
        same("picture(" + (i + 1) + "," + square + ",-1,0)", () -> x.picture(i + 1, square, -1, 0),
                () -> o.picture(i + 1, square, -1, 0));
    }

    private void ask() {
        int book = near(0, lastOf(2));
        int other = near(0, lastOf(2));
        int i = near(-1, 5);
        switch (n(20)) {
            case 0:
                same("least()", x::least, o::least);
                same("many()", x::many, o::many);
                break;
            case 1:
                same("read(" + i + ")", () -> x.read(i), () -> o.read(i));
                break;
            case 2:
                same("readNext(" + i + ")", () -> x.readNext(i), () -> o.readNext(i));
                break;
            case 3:
            case 4:
                int note = near(0, 4);
                same("slip(" + book + "," + note + ")", () -> x.slip(book, note), () -> o.slip(book, note));
                break;
            case 5:
                int slip = near(1, 7);
                same("slips(" + book + "," + slip + ")", () -> x.slips(book, slip), () -> o.slips(book, slip));
                break;
            case 6:
                same("breaks(" + book + ")", () -> x.breaks(book), () -> o.breaks(book));
                break;
            case 7:
                int at = near(0, 4);
                same("brief(" + at + ")", () -> x.brief(at), () -> o.brief(at));
                break;
            case 8:
                same("part()", x::part, o::part);
                break;
            case 9:
            case 10:
                same("best(" + i + ")", () -> x.best(i), () -> o.best(i));
                same("best(-1)", () -> x.best(-1), () -> o.best(-1));
                break;
            case 11:
                int of = near(0, 4);
                int width = near(0, 2);
                same("odds(" + of + "," + width + ",false)", () -> x.odds(of, width, false), () -> o.odds(of, width, false));
                same("odds(" + of + "," + width + ",true)", () -> x.odds(of, width, true), () -> o.odds(of, width, true));
                break;
            case 12:
                same("shared(" + book + "," + other + ",false)", () -> x.shared(book, other, false),
                        () -> o.shared(book, other, false));
                same("shared(" + book + "," + other + ",true)", () -> x.shared(book, other, true),
                        () -> o.shared(book, other, true));
                break;
            case 13:
                same("alike(" + book + "," + other + ")", () -> x.alike(book, other), () -> o.alike(book, other));
                break;
            case 14:
                same("way(" + book + ")", () -> x.way(book), () -> o.way(book));
                break;
            case 15:
                int cheap = near(1, 7);
                same("cheaper(" + cheap + ")", () -> x.cheaper(cheap), () -> o.cheaper(cheap));
                break;
            case 16:
                int what = near(0, 7);
                same("count(" + what + ")", () -> x.count(what), () -> o.count(what));
                same("count(6)", () -> x.count(6), () -> o.count(6));
                break;
            case 17:
                int side = near(0, 1);
                int which = near(-1, 12);
                same("moves(" + side + "," + which + ")", () -> x.moves(side, which), () -> o.moves(side, which));
                break;
            case 18:
                int n = near(0, 3);
                int part = near(0, 3);
                same("look(" + book + "," + n + "," + part + ")", () -> x.look(book, n, part), () -> o.look(book, n, part));
                break;
            default:
                same("fault()", x::fault, o::fault);
        }
    }
}
