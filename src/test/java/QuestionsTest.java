/** Promises 23 to 27: BREAKS, BRIEF, PART, BEST, ODDS. */
public final class QuestionsTest {
    private static final Checks C = new Checks("QuestionsTest");

    public static void main(String[] args) {
        promise23();
        promise23Alone();
        promise23Spent();
        promise24();
        promise25();
        promise26Facts();
        promise26Conditions();
        promise26Best();
        promise26TwoHundred();
        promise27();
        promise27Weights();
        promise27Spent();
        C.end();
    }

    private static MoveNotes walkers() {
        return SettingsTest.walkers();
    }

    private static void promise23() {
        MoveNotes x = walkers();
        C.noPlace("no BOOK", () -> x.breaks(0));
        int b = x.book(0);
        C.same("no NOTES", x.breaks(b), -3);
        x.note(b, 0, -1, 0, 1);
        x.note(b, 0, -1, 5, 4);
        x.note(b, 0, -1, 0, 2);
        C.same("none", x.breaks(b), -3);
        x.note(b, 0, -1, 0, 3);
        x.note(b, 0, -1, 0, 3);
        C.same("the fourth", x.breaks(b), 3);
        x.change(b, 0, 0, 1, 0, 1);
        C.same("the first", x.breaks(b), 0);
        x.change(b, 0, 0, 0, 0, 1);
        x.change(b, 1, 0, -1, 4, 4);
        C.same("the second", x.breaks(b), 1);
        C.noPlace("book 1", () -> x.breaks(1));
        C.noPlace("book -1", () -> x.breaks(-1));
        // Two may go to 8, from 7 and from 14; what comes later may ask for either.
        MoveNotes y = new MoveNotes();
        Checks.kind(y, "straight 2", 1);
        Checks.kind(y, "ahead 1", 1);
        y.put(7, 0, 0);
        y.put(14, 0, 0);
        y.put(35, 1, 1);
        int c = y.book(1);
        y.note(c, 0, -1, 2, 1);
        y.note(c, 1, -1, 5, 1);
        y.note(c, 0, -1, 2, 3);
        C.same("one way goes on", y.breaks(c), -3);
        y.note(c, 1, -1, 5, 2);
        y.note(c, 0, 1, 3, 1);
        C.same("the other way goes on: he of FILE 1 has stayed", y.breaks(c), -3);
        y.change(c, 4, 0, 2, 2, 5);
        C.same("and so does this", y.breaks(c), -3);
        y.change(c, 4, 0, 4, 2, 5);
        C.same("but this does not", y.breaks(c), 4);
    }

    private static void promise23Alone() {
        MoveNotes x = walkers();
        x.book(0);
        x.note(0, 0, -1, 1, 1);
        x.book(0);
        x.note(1, 0, -1, 0, 1);
        x.note(1, 0, -1, 5, 4);
        x.note(1, 0, -1, 5, 4);
        for (int slip = 1; slip <= 7; slip++) {
            x.price(slip, 1);
        }
        x.length(1);
        x.picture(0, 0, -1, 0);
        C.same("without TWICE, LENGTH, PICTURES and the other BOOK", x.breaks(1), 2);
        C.same("without SLIPS", x.breaks(0), 0);
        x.change(1, 0, 0, -1, 0, 2);
        C.same("without LOST", x.breaks(1), 0);
        C.same("no READING for all that", x.least(), -1);
    }

    private static void promise23Spent() {
        // All six of a SIDE stand so that several may go to each SQUARE.
        MoveNotes x = new MoveNotes();
        Checks.kind(x, "straight 5; slant 5", 1);
        for (int file = 0; file < 6; file++) {
            x.put(Checks.square(file, 0), 0, 0);
            x.put(Checks.square(file, 5), 0, 1);
        }
        int b = x.book(1);
        for (int n = 0; n < 6; n++) {
            x.note(b, 0, -1, n, 2);
            x.note(b, 0, -1, n, 2);
        }
        C.same("SPENT", x.breaks(b), -2);
        for (int n = 0; n < 12; n++) {
            x.change(b, n, 0, n / 2, n / 2, 2);
        }
        C.same("but not with FILES from", x.breaks(b), -3);
        x.change(b, 0, 0, 5, 0, 1);
        C.same("nor where it breaks at once", x.breaks(b), 0);
        spentAbove8000(-3, new int[][] {{4, 0}, {33, 1}, {32, 0}, {21, 1}, {13, 0}, {15, 0}, {27, 1}, {2, 1}, {17, 0},
            {24, 1}, {19, 0}, {9, 1}, {34, 0}}, 25, 0, 3, 28, 10, 22, 24, 15, 0);
        spentAbove8000(-2, new int[][] {{2, 0}, {31, 1}, {13, 0}, {15, 1}, {24, 0}, {25, 1}, {19, 0}, {3, 1}, {16, 0},
            {6, 1}, {27, 0}, {7, 1}, {14, 0}}, 0, 10, 21, 16, 3, 30, 1, 21, 15, 18, 20);
    }

    /** Queens alone; NOTES by the SQUARES to. The first asks for 8000 positions, the second for 8001. */
    private static void spentAbove8000(int due, int[][] men, int... notes) {
        MoveNotes x = new MoveNotes();
        Checks.kind(x, "straight 5; slant 5", 1);
        for (int[] man : men) {
            x.put(man[0], 0, man[1]);
        }
        x.book(0);
        for (int to : notes) {
            x.note(0, 0, -1, to % 6, to / 6);
        }
        C.same("BREAKS of 8000 positions or one more", x.breaks(0), due);
        C.same("LEAST of as many", x.least(), due == -3 ? 0 : -2);
        C.same("positions", x.count(6), due == -3 ? 8000 : -2);
    }

    private static void promise24() {
        MoveNotes x = new MoveNotes();
        Checks.kind(x, "straight 2", 1);
        Checks.kind(x, "straight 2", 1);
        x.put(7, 0, 0);
        x.put(14, 0, 0);
        x.put(9, 1, 0);
        x.put(20, 0, 1);
        int b = x.book(0);
        x.note(b, 0, -1, 2, 1);
        x.length(1);
        C.same("two of the KIND go to 8, and one of another", x.brief(0), 2);
        C.same("no MOVE 1", x.brief(1), -3);
        C.same("no MOVE far off", x.brief(Integer.MAX_VALUE), -3);
        C.wrong("i -1", () -> x.brief(-1));
        C.wrong("i NONE", () -> x.brief(MoveNotes.NONE));
        x.change(b, 0, 1, -1, 2, 1);
        C.same("one of the other KIND", x.brief(0), 1);
        x.put(35, 1, 0);
        C.same("still", x.brief(0), 1);
        x.change(b, 0, 1, -1, 5, 3);
        C.same("from 35 to 23", x.read(0), Checks.move(35, 23));
        C.same("alone", x.brief(0), 1);
        // Behind MOVE 0 things are otherwise: 8 is where the first has gone; SIDE 1 may take him from 20.
        x.length(2);
        x.change(b, 0, 0, 1, 2, 1);
        x.put(11, 0, 1);
        x.put(10, 0, 1);
        x.note(b, 0, -1, 4, 2);
        C.same("MOVE 1 from 10", x.read(1), Checks.move(10, 16));
        C.same("of SIDE 1 one goes to 16", x.brief(1), 1);
        x.put(28, 0, 1);
        C.same("then two", x.brief(1), 2);
        C.same("MOVE 0 as it was", x.brief(0), 2);
        x.length(3);
        C.same("no READING", x.brief(0), -1);
        C.wrong("i -1 without a READING", () -> x.brief(-1));
        // From 0 to 1, 2 and so on, beside one who waits on 14: he and who comes from 1 or 2 may go to 8.
        MoveNotes y = new MoveNotes();
        Checks.kind(y, "straight 1", 1);
        y.put(0, 0, 0);
        y.put(14, 0, 0);
        y.put(35, 0, 1);
        y.book(0);
        y.note(0, 0, 0, 1, 0);
        y.note(0, 0, -1, 5, 4);
        y.note(0, 0, -1, 2, 0);
        y.note(0, 0, -1, 5, 3);
        y.note(0, 0, -1, 2, 1);
        C.same("LEAST", y.least(), 0);
        C.same("MANY: either goes to 8", y.many(), 2);
        int[] due = {1, 1, 1, 1, 2, -3};
        for (int i = 0; i < due.length; i++) {
            C.same("BRIEF at " + i, y.brief(i), due[i]);
        }
        y.put(15, 0, 0);
        y.change(0, 2, 0, -1, 3, 1);
        y.change(0, 4, 0, -1, 2, 1);
        C.same("from 15 to 9", y.read(2), Checks.move(15, 9));
        C.same("9 and 14 may go to 8, 1 may not", y.brief(4), 2);
    }

    private static void promise25() {
        MoveNotes x = walkers();
        C.same("NEXT has one more", x.part(), 0);
        x.picture(4, 12, 0, 0);
        C.same("NEXT has a fifth", x.part(), 4);
        x.length(5);
        C.same("MANY is 1", x.part(), -3);
        x.length(11);
        C.same("no READING", x.part(), -1);
        MoveNotes y = new MoveNotes();
        Checks.kind(y, "straight 1", 1);
        y.put(0, 0, 0);
        y.put(35, 0, 1);
        y.length(1);
        C.same("the first MOVE is another", y.part(), 0);
        y.length(2);
        C.same("the second", y.part(), 1);
        y.length(3);
        C.same("the third", y.part(), 2);
    }

    /** A queen of VALUE 9 and a leap of VALUE 3 against three of VALUE 5, 2 and 0. */
    private static MoveNotes fight() {
        MoveNotes x = new MoveNotes();
        Checks.kind(x, "straight 5; slant 5", 9);
        Checks.kind(x, "leap", 3);
        Checks.kind(x, "ahead 1", 5);
        Checks.kind(x, "ahead 1", 2);
        Checks.kind(x, "ahead 1", 0);
        x.put(0, 0, 0);
        x.put(1, 1, 0);
        x.put(30, 2, 1);
        x.put(5, 3, 1);
        x.put(14, 4, 1);
        return x;
    }

    /** What a MEASURE tells of a READING: its MOVES are set by NOTES of one BOOK. */
    private static void played(MoveNotes x, String text, int due) {
        C.same("LINES of '" + text + "'", Checks.measure(x, text) > 0 ? 1 : 0, 1);
        C.same("PLAYED by '" + text + "'", x.best(-1), due);
    }

    private static void promise26Facts() {
        MoveNotes x = fight();
        x.book(0);
        x.note(0, 0, -1, 0, 5);
        x.note(0, 4, -1, 2, 1);
        x.note(0, 1, -1, 2, 2);
        // The queen takes 5; 14 to 8; the leap goes from 1 to 14: to FILE 2, RANK 2.
        C.same("LEAST", x.least(), 0);
        C.same("without a MEASURE", x.best(-1), 0);
        C.same("MOVE 0 of BEST", x.best(0), Checks.move(0, 30));
        C.same("MOVE 2 of BEST", x.best(2), Checks.move(1, 14));
        C.same("no MOVE 3", x.best(3), -3);
        played(x, "add 1", 3);
        played(x, "add 7; add 100", 321);
        played(x, "add 0", 0);
        played(x, "add 1 * took", 5);
        played(x, "add 2 * value", 24);
        played(x, "add 1 * number", 6);
        played(x, "add 100 * number if takes", 100);
        played(x, "add 1 * men", 2 + 2 + 2);
        played(x, "add 1 * men if number > 1 and number < 3", 2);
        played(x, "add 1 if takes", 1);
        played(x, "add 1 if not takes", 2);
        // Of VALUE 0 one was TAKEN all the same.
        MoveNotes y = fight();
        y.book(0);
        y.note(0, 1, -1, 2, 2);
        y.length(1);
        C.same("1 takes 14", y.read(0), Checks.move(1, 14));
        played(y, "add 1 if takes; add 10 * took; add 100 if took > 0", 1);
        // Safe: who moved is not TAKEN by the next MOVE; behind it, with all LINES.
        MoveNotes z = new MoveNotes();
        Checks.kind(z, "straight 5; ahead 1", 9);
        Checks.kind(z, "ahead 2", 1);
        Checks.kind(z, "bite", 1);
        z.put(14, 0, 0);
        z.put(32, 1, 1);
        z.put(22, 2, 1);
        z.length(1);
        z.book(0);
        z.note(0, 0, -1, 2, 3);
        played(z, "add 1 if safe; add 10 if not safe", 1);
        z.change(0, 0, 0, -1, 3, 2);
        played(z, "add 1 if safe; add 10 if not safe", 10);
        z.change(0, 0, 0, -1, 4, 2);
        played(z, "add 1 if safe; add 10 if not safe", 1);
        z.put(35, 0, 1);
        z.put(17, 1, 0);
        played(z, "add 1 if safe; add 10 if not safe", 1);
        z.put(17, 0, 1);
        played(z, "add 1 if safe; add 10 if not safe", 10);
        // One on SQUARE 0 may take; and who moved may be of SIDE 1.
        MoveNotes v = new MoveNotes();
        Checks.kind(v, "ahead 1", 1);
        Checks.kind(v, "leap", 1);
        v.put(2, 0, 0);
        v.put(0, 1, 1);
        v.length(1);
        played(v, "add 1 if safe; add 10 if not safe", 10);
        v.put(0, 1, 0);
        v.put(35, 1, 1);
        v.put(2, -1, 0);
        v.put(24, 0, 0);
        v.put(14, 0, 1);
        v.length(2);
        v.book(0);
        v.note(0, 0, -1, 0, 5);
        v.note(0, 0, -1, 2, 1);
        C.same("SIDE 1 goes to 8", v.read(1), Checks.move(14, 8));
        played(v, "add 1 * number if not safe", 2);
        v.put(0, -1, 0);
        played(v, "add 1 * number if not safe", 0);
        // Number and men for SIDE 1.
        MoveNotes w = walkers();
        w.put(1, 0, 0);
        w.put(2, 0, 0);
        w.length(4);
        w.book(0);
        w.price(6, 1);
        w.note(0, 0, -1, 0, 1);
        w.note(0, 0, -1, 5, 4);
        w.note(0, 0, -1, 0, 2);
        w.note(0, 0, -1, 5, 3);
        played(w, "add 1 * men", 3 + 1 + 3 + 1);
        played(w, "add 1 * number if men < 2", 2 + 4);
    }

    private static void promise26Conditions() {
        // One MOVE: takes, safe, took 4, value 6, number 1, men 2.
        MoveNotes x = new MoveNotes();
        Checks.kind(x, "ahead 1; bite", 6);
        Checks.kind(x, "", 4);
        x.put(14, 0, 0);
        x.put(0, 0, 0);
        x.put(21, 1, 1);
        x.length(1);
        x.book(0);
        x.note(0, 0, -1, 3, 3);
        C.same("14 takes 21", x.read(0), Checks.move(14, 21));
        String[] so = {"takes", "safe", "takes and safe", "not not takes", "(takes)", "not takes or safe",
            "takes or not safe and not safe", "not takes and not takes or takes", "took < 5", "4 < 5", "took + men > 5",
            "value > took + number", "7 > value", "number < men", "1 + 2 + 3 + 0 > 5", "not (takes and not safe)",
            "not (not takes or not safe)", "takes and (not safe or took > 3)", "(takes or safe) and (men > 1)",
            "not takes or not takes or takes", "takes and safe and takes", "not takes or safe and takes or not safe",
            "value + value > 11", "took+value<11", "998 < 999", "not not not not not not takes"};
        for (String c : so) {
            played(x, "add 5 if " + c, 5);
        }
        String[] not = {"not takes", "not safe", "takes and not safe", "not takes and safe or not safe", "took < 4",
            "took > 4", "4 > 5", "value < 6", "value > 6", "5 < 5", "5 > 5", "took + men > 6", "not (takes or not safe)",
            "not takes and safe", "(not takes or safe) and not safe", "not (not (takes and not safe))",
            "takes and safe and not takes", "not takes or not safe", "number > 1", "men < 2", "took + value > 10",
            "value + number + men < 9", "not takes and (safe or takes)", "not not not not not takes"};
        for (String c : not) {
            played(x, "add 5 if " + c, 0);
        }
        // And goes ahead of or.
        played(x, "add 5 if takes or safe and not takes", 5);
        played(x, "add 5 if (takes or safe) and not takes", 0);
        // Not goes ahead of and.
        played(x, "add 5 if not takes and not safe or takes", 5);
        played(x, "add 3 * took if takes; add 2 * value if not takes; add 100 * men if safe; add 1", 12 + 200 + 1);
        played(x, "add 999 * value; add 999 * value; add 999 * value; add 1 * men", 3 * 5994 + 2);
        // The deepest that a text may be.
        played(x, "add 1 if ((((((takes and safe) or safe) and takes) or safe) and takes) or not takes)", 1);
        StringBuilder deep = new StringBuilder("add 1 if ");
        for (int n = 0; n < 6; n++) {
            deep.append("not takes or takes and (");
        }
        deep.append("1 > 2 or takes and 1+1<1+1+1");
        played(x, deep.append("))))))").toString(), 1);
    }

    private static void promise26Best() {
        MoveNotes x = new MoveNotes();
        Checks.kind(x, "straight 1", 7);
        Checks.kind(x, "slant 1", 3);
        x.put(0, 0, 0);
        x.put(35, 1, 0);
        x.length(1);
        C.same("FIRST", x.read(0), Checks.move(0, 1));
        C.same("all are alike: the first", x.best(0), Checks.move(0, 1));
        C.same("LINE of value", Checks.measure(x, "add 1 * value"), 1);
        C.same("the one of the least PLAYED", x.best(0), Checks.move(35, 28));
        C.same("PLAYED", x.best(-1), 3);
        C.same("no MOVE 1", x.best(1), -3);
        C.same("no MOVE far off", x.best(Integer.MAX_VALUE), -3);
        C.wrong("i -2", () -> x.best(-2));
        C.same("FIRST is still", x.read(0), Checks.move(0, 1));
        Checks.measure(x, "add 1 if value < 5; add 1 if value > 5");
        C.same("of several the first", x.best(0), Checks.move(0, 1));
        x.length(-1);
        C.same("no MOVE at all is least", x.best(-1), 0);
        C.same("it has none", x.best(0), -3);
        x.length(2);
        C.same("no READING", x.best(-1), -1);
        C.same("no READING, MOVE 0", x.best(0), -1);
        C.wrong("i -2 without a READING", () -> x.best(-2));
        // Just READINGS of LEAST are asked.
        x.length(1);
        x.book(0);
        x.note(0, 0, -1, 1, 0);
        x.price(1, 1);
        x.price(2, 1);
        Checks.measure(x, "add 1 * value");
        C.same("just of LEAST", x.best(-1), 7);
    }

    /**
     * SIDE 0: 20 MOVES of VALUE 5 (or 19, with one in the way), then those of VALUE 0; SIDE 1: ten each time, the last
     * of VALUE 0, the others of VALUE 1. They do not come near each other.
     */
    private static void promise26TwoHundred() {
        for (int n = 0; n < 2; n++) {
            MoveNotes x = new MoveNotes();
            Checks.kind(x, "straight 2; slant 2", 5);
            Checks.kind(x, "leap", 0);
            Checks.kind(x, "ahead 2", 1);
            Checks.kind(x, "ahead 1", 1);
            Checks.kind(x, "ahead 1", 0);
            x.put(0, 0, 0);
            x.put(2, 0, 0);
            x.put(5, 0, 0);
            x.put(13, 1, 0);
            for (int square = 30; square < 36; square++) {
                x.put(square, square < 34 ? 2 : square - 31, 1);
            }
            if (n == 1) {
                x.put(17, 2, 0);
            }
            C.same("the MOVE behind those of VALUE 5", x.moves(0, 20 - n), Checks.move(13, 9));
            C.same("ten of SIDE 1", x.moves(1, -1), 10);
            x.length(2);
            Checks.measure(x, "add 1 * value");
            // The 200th is the last of VALUE 5, or the first of VALUE 0 with the last of SIDE 1.
            C.same("PLAYED of BEST of the first 200", x.best(-1), n == 0 ? 5 : 0);
            C.same("its MOVE 0", x.best(0), n == 0 ? Checks.move(0, 1) : Checks.move(13, 9));
            C.same("its MOVE 1", x.best(1), Checks.move(35, 29));
        }
    }

    private static void promise27() {
        MoveNotes x = new MoveNotes();
        Checks.kind(x, "straight 1", 1);
        x.put(14, 0, 0);
        x.put(35, 0, 1);
        x.length(1);
        C.same("one of four, above", x.odds(0, 0, false), 1);
        C.same("one of four, below", x.odds(0, 0, true), 4);
        C.same("no MOVE 1", x.odds(1, 0, false), -3);
        C.same("no MOVE far off", x.odds(Integer.MAX_VALUE, 2, true), -3);
        x.length(2);
        C.same("two of eight, above", x.odds(0, 0, false), 1);
        C.same("two of eight, below", x.odds(0, 0, true), 4);
        C.same("MOVE 1: four of eight, above", x.odds(1, 0, false), 1);
        C.same("MOVE 1: four of eight, below", x.odds(1, 0, true), 2);
        C.same("with a WIDTH there are no more", x.odds(1, 2, true), 2);
        C.wrong("i -1", () -> x.odds(-1, 0, false));
        C.wrong("width -1", () -> x.odds(0, -1, false));
        C.wrong("width 3", () -> x.odds(0, 3, false));
        x.length(-1);
        x.book(0);
        C.same("START alone", x.odds(0, 0, true), -3);
        x.length(1);
        C.same("no READING", x.odds(0, 2, true), -1);
        C.wrong("width 3 without a READING", () -> x.odds(0, 3, false));
        // A MOVE that all have; a MOVE i is at its place.
        MoveNotes y = walkers();
        C.same("FIRST has no MOVE", y.odds(0, 0, false), -3);
        y.length(3);
        C.same("all of one, above", y.odds(2, 0, false), 1);
        C.same("all of one, below", y.odds(2, 0, true), 1);
        C.same("none", y.odds(3, 0, true), -3);
    }

    private static void promise27Weights() {
        // From 0 to 1, 2, 6, 12: to 1 is as it is, to 2 off by one in the FILE.
        MoveNotes x = new MoveNotes();
        Checks.kind(x, "straight 2", 1);
        x.put(0, 0, 0);
        x.book(0);
        x.note(0, 0, -1, 1, 0);
        C.same("just one", x.odds(0, 0, true), 1);
        x.price(2, 1);
        // The price of 1 has the weight 1, that of 0 has 4: 4 of 5; with WIDTH 2: 16 of 20.
        long[][] due = {{1, 1}, {4, 5}, {4, 5}};
        odds(x, 0, due);
        x.price(2, 2);
        odds(x, 0, new long[][] {{1, 1}, {1, 1}, {16, 17}});
        x.price(2, 3);
        odds(x, 0, new long[][] {{1, 1}, {1, 1}, {1, 1}});
        // LEAST above 0: NOTE to FILE 1, RANK 1: from 0 to 1 by the RANK, to 6 by the FILE.
        x.change(0, 0, 0, -1, 1, 1);
        x.price(3, 1);
        x.price(2, 2);
        odds(x, 0, new long[][] {{1, 1}, {4, 5}, {4, 5}});
        x.price(2, 1);
        odds(x, 0, new long[][] {{1, 2}, {1, 2}, {1, 2}});
        x.price(3, 3);
        // FIRST is now by the FILE, to 6; that by the RANK to 1 is for 3, two more.
        C.same("FIRST", x.read(0), Checks.move(0, 6));
        odds(x, 0, new long[][] {{1, 1}, {1, 1}, {16, 17}});
        // READINGS of more MOVES, by LOST ones: those that have MOVE 0 of FIRST at its place.
        MoveNotes y = new MoveNotes();
        Checks.kind(y, "straight 1", 1);
        y.put(0, 0, 0);
        y.put(35, 0, 1);
        y.book(0);
        y.note(0, 0, -1, 1, 0);
        y.price(6, 1);
        // LEAST 0: 0 to 1. Of PRICE 1: that and one of SIDE 1's two. Of PRICE 2: these, and a MOVE of three or so from 1:
        // 0, 2, 7: 2 times 3; or two LOST before it: 0 to 6, 35 to two, 6 to 7 or 0 or 12: none goes to 1.
        odds(y, 0, new long[][] {{1, 1}, {1, 1}, {1, 1}});
        // To 7 (FILE 1, RANK 1) are two ways, each behind two LOST.
        y.change(0, 0, 0, -1, 1, 1);
        C.same("LEAST", y.least(), 2);
        C.same("MANY", y.many(), 4);
        odds(y, 0, new long[][] {{1, 2}, {1, 2}, {1, 2}});
        odds(y, 1, new long[][] {{1, 2}, {1, 2}});
        // Of PRICE 2 four READINGS; of PRICE 3 each with a MOVE of SIDE 1 more: behind 35 to 29: 23, 28, 35; as many
        // behind 34. MOVE 2 is the same for half of them: 1 to 7, or 6 to 7.
        odds(y, 2, new long[][] {{1, 2}, {1, 2}});
        C.same("no MOVE 3", y.odds(3, 1, true), -3);
        // A READING that ends ahead of MOVE 1 does not have it: 8 to 14 and 21 takes 14, or 8 to 14 and a NOTE TWICE.
        MoveNotes z = new MoveNotes();
        Checks.kind(z, "ahead 1; bite", 1);
        z.put(8, 0, 0);
        z.put(21, 0, 1);
        z.book(0);
        z.note(0, 0, -1, 2, 2);
        z.note(0, 0, -1, 2, 2);
        z.price(7, 1);
        C.same("LEAST", z.least(), 0);
        C.same("FIRST takes", z.read(1), Checks.move(21, 14));
        odds(z, 1, new long[][] {{1, 1}, {4, 5}, {4, 5}});
        odds(z, 0, new long[][] {{1, 1}, {1, 1}, {1, 1}});
    }

    private static void odds(MoveNotes x, int i, long[][] due) {
        for (int width = 0; width < due.length; width++) {
            C.same("above, WIDTH " + width, x.odds(i, width, false), due[width][0]);
            C.same("below, WIDTH " + width, x.odds(i, width, true), due[width][1]);
        }
    }

    private static void promise27Spent() {
        // LEAST is not SPENT, but two PRICES more are.
        MoveNotes x = new MoveNotes();
        Checks.kind(x, "straight 5; slant 5", 1);
        x.put(0, 0, 0);
        x.put(14, 0, 0);
        x.put(35, 0, 1);
        x.put(21, 0, 1);
        x.book(0);
        x.price(6, 1);
        C.same("LEAST", x.least(), 0);
        C.same("START alone", x.count(6), 1);
        C.same("WIDTH 0", x.odds(0, 0, true), -3);
        C.same("WIDTH 1", x.odds(0, 1, true), -3);
        x.length(1);
        C.same("LEAST", x.least(), 1);
        int many = x.many();
        C.same("WIDTH 0", x.odds(0, 0, true), many);
        C.same("WIDTH 2", x.odds(0, 2, true), many);
        x.length(2);
        C.same("LEAST of two MOVES", x.least(), 2);
        C.same("WIDTH 2 of two MOVES", x.odds(1, 2, true), x.many());
        x.length(3);
        C.same("three are SPENT", x.odds(0, 0, true), -2);
        C.same("ahead of a MOVE that is none", x.odds(5, 0, true), -2);
        // Without a BOOK each PRICE lays out the same: twice 4000 are 8000, thrice 2666 are 7998.
        edge(4000, 1, false, new int[][] {{13, 0, 0}, {12, 1, 1}, {7, 1, 0}, {11, 0, 0}});
        edge(4001, 1, true, new int[][] {{5, 0, 0}, {8, 1, 1}, {10, 0, 0}});
        edge(2666, 2, false, new int[][] {{35, 0, 0}, {33, 1, 1}, {32, 0, 0}});
        edge(2667, 2, true, new int[][] {{35, 0, 0}, {24, 1, 1}, {3, 0, 0}});
    }

    private static void edge(int positions, int width, boolean isSpent, int[][] men) {
        MoveNotes x = new MoveNotes();
        Checks.kind(x, "straight 5; slant 5", 1);
        Checks.kind(x, "leap", 1);
        for (int[] man : men) {
            x.put(man[0], man[1], man[2]);
        }
        x.length(3);
        C.same("positions", x.count(6), positions);
        C.same("WIDTH " + width + " of " + positions, x.odds(0, width, false) == -2 ? 1 : 0, isSpent ? 1 : 0);
        C.same("WIDTH " + width + " without such a MOVE", x.odds(3, width, false), isSpent ? -2 : -3);
        C.same("WIDTH " + (width - 1) + " of " + positions, x.odds(3, width - 1, false), -3);
        C.same("LEAST is as it was", x.least(), 0);
        C.same("count(6) is as it was", x.count(6), positions);
    }
}
