import java.math.BigInteger;

/**
 * The edges that parts 3 and 4 of the document's Terms name: BREAKS, BRIEF, PART, MEASURE, BEST, ODDS, SHARED, ALIKE, WAY,
 * CHEAPER, WRITTEN, THE IMAGE. One method a sentence; the sentence stands ahead of it.
 */
public final class EdgesQuestionsTest {
    private static final Checks C = new Checks("EdgesQuestionsTest");
    private static final int LOWEST = Integer.MIN_VALUE;
    private static final int HIGHEST = Integer.MAX_VALUE;

    public static void main(String[] args) {
        breaksAlone();
        breaksFirstAndLast();
        breaksSpent();
        brief();
        part();
        measureLines();
        measureNumbers();
        nested();
        words();
        blanks();
        noLine();
        firstWrongByte();
        facts();
        safe();
        playedWithoutText();
        firstOfTwoHundred();
        ofSeveralTheFirst();
        widths();
        weights();
        withoutCommonPart();
        oddsPositions();
        sharedMoves();
        copied();
        alikeMost();
        alikeOfAllFour();
        wayIsLess();
        wayWithoutReading();
        wayIsSpent();
        cheaperOrZero();
        cheaperByOne();
        writtenMoves();
        writtenDraws();
        writtenSlips();
        writtenToldNumber();
        image();
        imageOfAll();
        C.end();
    }

    private static MoveNotes walkers() {
        return SettingsTest.walkers();
    }

    private static MoveNotes shufflers() {
        return EdgesReadingsTest.shufflers();
    }

    // "BREAKS of a BOOK: alone, without any SLIP, LENGTH, PICTURE"
    private static void breaksAlone() {
        MoveNotes x = walkers();
        for (int slip = 1; slip <= 7; slip++) {
            x.price(slip, 1);
        }
        x.length(0);
        x.picture(0, 0, -1, 0);
        x.picture(30, 0, 0, 0);
        x.book(0);
        x.note(0, 0, -1, 3, 3);
        x.book(0);
        x.note(1, 0, -1, 0, 1);
        C.same("no READING of both", x.least(), -1);
        C.same("the second alone", x.breaks(1), -3);
        // Each SLIP would let it.
        int[][] notes = {{1, -1, 5, 4}, {0, -1, 4, 4}, {0, -1, 5, 3}, {0, -1, 5, 1}, {0, 0, 5, 4}, {0, -1, 0, 2},
            {0, -1, 0, 1}};
        Checks.kind(x, "", 1);
        x.note(1, 0, -1, 5, 4);
        C.same("two as they are", x.breaks(1), -3);
        for (int slip = 1; slip <= 7; slip++) {
            int[] n = notes[slip - 1];
            x.change(1, 1, n[0], n[1], n[2], n[3]);
            C.same("without SLIP " + slip, x.breaks(1), 1);
        }
    }

    // "the first NOTE that no game lets; none"
    private static void breaksFirstAndLast() {
        MoveNotes x = shufflers();
        x.book(0);
        C.same("no NOTES: none", x.breaks(0), -3);
        EdgesReadingsTest.shuffle(x, 0, 0, 24);
        C.same("24: none", x.breaks(0), -3);
        for (int n = 23; n >= 0; n--) {
            x.change(0, n, 0, -1, 3, 3);
            C.same("NOTE " + n, x.breaks(0), n);
        }
        // Nobody at all.
        MoveNotes y = new MoveNotes();
        Checks.kind(y, "straight 1", 1);
        y.book(1);
        C.same("nobody, no NOTES", y.breaks(0), -3);
        y.note(0, 0, -1, 0, 0);
        C.same("nobody, one NOTE", y.breaks(0), 0);
    }

    // "(8000 positions as above, by PRICE 0 alone; SPENT)"
    private static void breaksSpent() {
        int[][][] men = {
            {{4, 0}, {33, 1}, {32, 0}, {21, 1}, {13, 0}, {15, 0}, {27, 1}, {2, 1}, {17, 0}, {24, 1}, {19, 0}, {9, 1}, {34, 0}},
            {{2, 0}, {31, 1}, {13, 0}, {15, 1}, {24, 0}, {25, 1}, {19, 0}, {3, 1}, {16, 0}, {6, 1}, {27, 0}, {7, 1}, {14, 0}}
        };
        int[][] notes = {{25, 0, 3, 28, 10, 22, 24, 15, 0}, {0, 10, 21, 16, 3, 30, 1, 21, 15, 18, 20}};
        for (int n = 0; n < 2; n++) {
            MoveNotes x = new MoveNotes();
            Checks.kind(x, "straight 5; slant 5", 1);
            for (int[] man : men[n]) {
                x.put(man[0], 0, man[1]);
            }
            x.book(0);
            for (int to : notes[n]) {
                x.note(0, 0, -1, to % 6, to / 6);
            }
            C.same("BREAKS of " + (8000 + n), x.breaks(0), n == 0 ? -3 : -2);
            x.length(0);
            x.picture(0, 0, 0, 0);
            C.same("whatever LENGTH and PICTURES say", x.breaks(0), n == 0 ? -3 : -2);
        }
    }

    // "BRIEF at MOVE i of FIRST: how many MOVES there are then of the same KIND of man to the same SQUARE"
    private static void brief() {
        MoveNotes x = shufflers();
        x.length(30);
        for (int i = 0; i < 30; i++) {
            C.same("MOVE " + i, x.brief(i), 1);
        }
        for (int i : new int[] {30, 31, HIGHEST}) {
            C.same("without MOVE " + i, x.brief(i), -3);
        }
        for (int i : new int[] {-1, -2, LOWEST}) {
            C.wrong("MOVE " + i, () -> x.brief(i));
        }
        // All eight leaps around go to 14; those of another KIND and of the other SIDE do not count.
        MoveNotes y = new MoveNotes();
        Checks.kind(y, "leap", 1);
        Checks.kind(y, "leap", 1);
        int[] around = {1, 3, 6, 10, 18, 22, 25, 27};
        y.book(0);
        y.note(0, 0, -1, 2, 2);
        for (int n = 0; n < 8; n++) {
            y.put(around[n], 0, 0);
            C.same("so many to 14", y.brief(0), n + 1);
        }
        y.put(27, 1, 0);
        C.same("one of another KIND", y.brief(0), 7);
        y.put(25, 0, 1);
        C.same("one of the other SIDE", y.brief(0), 6);
        y.put(14, 1, 1);
        C.same("one to TAKE there", y.brief(0), 6);
    }

    // "PART: the number of the first MOVE (from 0 on) by which FIRST and NEXT differ (also if just one has it); none, if MANY
    // is 1"
    private static void part() {
        for (int n = 0; n < 30; n++) {
            MoveNotes x = shufflers();
            x.picture(n, 2, 1, 0);
            C.same("NEXT alone has MOVE " + n, x.part(), n);
            C.same("it has one more", x.readNext(-1), n + 1);
            C.same("than FIRST", x.read(-1), n);
        }
        MoveNotes y = shufflers();
        y.length(30);
        C.same("MANY is 1", y.part(), -3);
        MoveNotes z = new MoveNotes();
        C.same("MANY is 1, of no MOVE", z.part(), -3);
        Checks.kind(z, "straight 1", 1);
        z.put(14, 0, 0);
        z.length(1);
        C.same("another MOVE 0", z.part(), 0);
    }

    private static String repeat(String one, int n, String between) {
        StringBuilder s = new StringBuilder();
        for (int i = 0; i < n; i++) {
            s.append(i == 0 ? "" : between).append(one);
        }
        return s.toString();
    }

    // "MEASURE: a text: LINE { ; LINE }, at most 10."
    private static void measureLines() {
        for (int n = 1; n <= 10; n++) {
            MoveNotes x = walkers();
            x.length(1);
            C.same(n + " LINES", Checks.measure(x, repeat("add 2", n, ";")), n);
            C.same("each adds", x.best(-1), 2 * n);
        }
        String ten = repeat("add 1", 10, ";");
        C.same("of an eleventh the first word", Checks.faultOfMeasure(ten + " ; add 1"), 62);
        C.same("of an eleventh that is wrong too", Checks.faultOfMeasure(ten + ";if"), 60);
        C.same("an eleventh that does not come", Checks.faultOfMeasure(ten + ";"), 60);
    }

    // "NUMBER: 1 to 3 digits."
    private static void measureNumbers() {
        String[] right = {"0", "9", "10", "99", "100", "999", "000", "007"};
        int[] due = {0, 9, 10, 99, 100, 999, 0, 7};
        for (int n = 0; n < right.length; n++) {
            MoveNotes x = walkers();
            x.length(1);
            C.same("add " + right[n], Checks.measure(x, "add " + right[n]), 1);
            C.same("it is " + due[n], x.best(-1), due[n]);
            Checks.measure(x, "add 1 if " + right[n] + " > " + due[n] + "; add 2 if " + right[n] + " + 1 > " + due[n]);
            C.same("it is so in a SUM", x.best(-1), 2);
        }
        for (String wrong : new String[] {"1000", "0000", "9999", "12345678901234567890"}) {
            C.same("add " + wrong, Checks.faultOfMeasure("add " + wrong), 4);
            C.same("in a SUM " + wrong, Checks.faultOfMeasure("add 1 if 2 + " + wrong + " < 3"), 13);
            C.same("right of it " + wrong, Checks.faultOfMeasure("add 1 if 2 < " + wrong), 13);
        }
    }

    // "( and not within one another at most 6 deep"
    private static void nested() {
        for (int n = 1; n <= 7; n++) {
            for (int opens = 0; opens <= n; opens++) {
                // So many (, then so many not, then one more thing.
                String head = "add 1 if " + repeat("(", opens, "") + repeat("not ", n - opens, "");
                String text = head + "takes" + repeat(")", opens, "");
                int seventh = 9 + (opens == 7 ? 6 : opens + 4 * (6 - opens));
                C.same(text, Checks.faultOfMeasure(text), n < 7 ? -1 : seventh);
            }
        }
        // Beside one another there may be more.
        C.same("six and six", Checks.faultOfMeasure("add 1 if " + repeat("((((((takes))))))", 3, " and ")), -1);
        C.same("not not not, three times", Checks.faultOfMeasure("add 1 if " + repeat("not not not safe", 3, " or ")), -1);
        C.same("in each LINE anew", Checks.faultOfMeasure(repeat("add 1 if not(not(not(safe)))", 10, ";")), -1);
        C.same("what has been closed is not around the next", Checks.faultOfMeasure(
                "add 1 if (((((takes) and (safe)))))"), -1);
        C.same("the second is the seventh deep", Checks.faultOfMeasure("add 1 if ((((((takes and (safe)))))))"), 25);
    }

    // "Words are as long as a to z go on"
    private static void words() {
        String[][] texts = {{"addone", "0"}, {"ad d 1", "0"}, {"add1if takes", "-1"}, {"add 1 iftakes", "6"},
            {"add 1 if nottakes", "9"}, {"add 1 if takesand safe", "9"}, {"add 1 if takes andsafe", "15"},
            {"add 1 if(takes)and(safe)", "-1"}, {"add 1 if not(takes)or safe", "-1"}, {"add 1*took", "-1"},
            {"Add 1", "0"}, {"add 1 if Takes", "9"}, {"add 1 if take", "9"}, {"add 1 if takess", "9"}, {"add 1 if z", "9"},
            {"add 1 if a", "9"}, {"add 1 if `", "9"}, {"add 1 if {", "9"}, {"add 1 if took<1takes", "15"},
            {"add 1 if took<1and takes", "-1"}, {"add 1 if numbers < 3", "9"}, {"add 1 if straight", "9"}};
        for (String[] t : texts) {
            C.same(t[0], Checks.faultOfMeasure(t[0]), Integer.parseInt(t[1]));
        }
        String[][] kinds = {{"leapleap", "0"}, {"straight1", "-1"}, {"straight1slant1", "9"}, {"straightone", "0"},
            {"bite;leap", "-1"}, {"bites", "0"}, {"bitez", "0"}, {"zbite", "0"}, {"bitea", "0"}, {"abite", "0"},
            {"bite`", "4"}, {"bite{", "4"}, {"straight1/", "9"}, {"straight1:", "9"}, {"bit", "0"}, {"b", "0"},
            {"LEAP", "0"}};
        for (String[] t : kinds) {
            C.same(t[0], Checks.faultOfKind(t[0]), Integer.parseInt(t[1]));
        }
    }

    // "between all there may be blanks (32), also ahead and behind"
    private static void blanks() {
        C.same("many", Checks.faultOfMeasure("   add   1   *   took   if   (   takes   or   safe   )   ;   add   2   "), -1);
        C.same("none", Checks.faultOfMeasure("add1*took if(takes or 1<2)or safe;add2"), -1);
        C.same("in a KIND", Checks.faultOfKind("   straight   5   ;   bite   ;leap   "), -1);
        C.same("not in a NUMBER", Checks.faultOfMeasure("add 1 2"), 6);
        C.same("not in a word", Checks.faultOfKind("le ap"), 0);
        for (int b = 0; b < 256; b++) {
            if (b != ' ' && b != ';' && (b < 'a' || b > 'z') && (b < '0' || b > '9')) {
                char c = (char) b;
                C.same("byte " + b + " behind", Checks.faultOfKind("leap" + c), 4);
                C.same("byte " + b + " ahead", Checks.faultOfKind(c + "leap"), 0);
                C.same("byte " + b + " between", Checks.faultOfKind("ahead" + c + "1"), 5);
                C.same("byte " + b + " in a MEASURE", Checks.faultOfMeasure("add" + c + "1"), 3);
            }
        }
    }

    // "A text of either sort that is empty, or blanks alone, has no LINE."
    private static void noLine() {
        for (int n : new int[] {0, 1, 2, 19, 20, 21, 399, 400}) {
            MoveNotes x = walkers();
            String text = " ".repeat(n);
            C.same("MEASURE of " + n + " blanks", Checks.measure(x, text), 0);
            C.same("it has no wrong byte", x.fault(), -1);
            C.same("a KIND of " + n + " blanks", Checks.kind(x, text, 1), 1);
            C.same("nor has it", x.fault(), -1);
            x.put(0, 1, 0);
            C.same("he has no MOVES", x.moves(0, -1), 0);
        }
        MoveNotes y = new MoveNotes();
        C.same("a TAPE that was never fed", y.kind(0), 0);
        C.same("for a MEASURE", y.measure(), 0);
    }

    // "The first wrong byte: the begin of the first thing that cannot stand there ..., or the text's length, if more must
    // come."
    private static void firstWrongByte() {
        // Every beginning of a right text: right as it is, or its last word is none, or more must come.
        String text = "add 12 * took if not (takes or 1 + men < 3)";
        int[] due = {-1, 0, 0, 3, 4, -1, -1, -1, 8, 9, 9, 9, 9, -1, -1, 14, 16, 17, 17, 17, 20, 21, 22, 22, 22, 22, 22, 27, 28,
            28, 30, 31, 32, 33, 34, 35, 35, 35, 38, 39, 40, 41, 42, -1};
        for (int n = 0; n <= text.length(); n++) {
            C.same("'" + text.substring(0, n) + "'", Checks.faultOfMeasure(text.substring(0, n)), due[n]);
        }
        // Behind the first wrong thing nothing counts.
        C.same("the first of two", Checks.faultOfMeasure("add 1000 if hop"), 4);
        C.same("what comes behind a right one", Checks.faultOfMeasure("add 1 hop"), 6);
        C.same("of the second LINE", Checks.faultOfMeasure("add 1;hop"), 6);
        C.same("a KIND's second LINE", Checks.faultOfKind("leap; slant 6"), 12);
    }

    private static void played(MoveNotes x, String text, int due) {
        C.same("LINES of '" + text + "'", Checks.measure(x, text) > 0 ? 1 : 0, 1);
        C.same("PLAYED by '" + text + "'", x.best(-1), due);
    }

    // "took: the VALUE of that (0 without)"; "number: of the MOVE, from 1 on"; "men: how many of the SIDE that moved are on
    // THE BOARD behind it"
    private static void facts() {
        // 0 takes 5 (VALUE 20), 35 takes him on 5 (VALUE 7).
        MoveNotes x = new MoveNotes();
        Checks.kind(x, "straight 5", 7);
        Checks.kind(x, "", 20);
        x.put(0, 0, 0);
        x.put(14, 1, 0);
        x.put(5, 1, 1);
        x.put(35, 0, 1);
        x.length(1);
        x.book(0);
        x.note(0, 0, -1, 5, 0);
        played(x, "add 1 * took", 20);
        played(x, "add 1 * number", 1);
        played(x, "add 1 * men", 2);
        played(x, "add 1 * value", 7);
        played(x, "add 1 if takes", 1);
        x.length(2);
        x.note(0, 0, -1, 5, 0);
        C.same("LEAST", x.least(), 0);
        played(x, "add 1 * took", 20 + 7);
        played(x, "add 1 * number", 1 + 2);
        played(x, "add 1 * men", 2 + 1);
        played(x, "add 1 * men if number > 1", 1);
        played(x, "add 1 if takes", 2);
        // Without: 0.
        x.change(0, 0, 0, -1, 4, 0);
        x.change(0, 1, 0, -1, 5, 4);
        C.same("LEAST", x.least(), 0);
        played(x, "add 1 * took; add 1 if took < 1", 2);
        played(x, "add 1 if takes; add 3", 6);
        // A man of VALUE 0 is TAKEN all the same.
        MoveNotes y = new MoveNotes();
        Checks.kind(y, "straight 5", 0);
        y.put(0, 0, 0);
        y.put(5, 0, 1);
        y.length(1);
        y.book(0);
        y.note(0, 0, -1, 5, 0);
        played(y, "add 1 if takes and took < 1; add 10 * value; add 100 * men", 101);
        // The thirtieth MOVE.
        MoveNotes z = shufflers();
        z.length(30);
        played(z, "add 1 if number > 29", 1);
        played(z, "add 1 if number > 30", 0);
        played(z, "add 1 * number", 465);
        played(z, "add 999 * number", 999 * 465);
    }

    // "safe: behind it no MOVE of the other SIDE takes who moved"
    private static void safe() {
        // One goes from 14 to 20; for each other SQUARE and sort, whether one there could take him.
        String[] sorts = {"straight 1", "straight 5", "slant 1", "slant 5", "ahead 5", "leap", "bite"};
        for (String sort : sorts) {
            for (int square = 0; square < 36; square++) {
                if (square == 14 || square == 20) {
                    continue;
                }
                MoveNotes x = new MoveNotes();
                Checks.kind(x, "ahead 1", 1);
                Checks.kind(x, sort, 1);
                x.put(14, 0, 0);
                x.put(square, 1, 1);
                x.length(1);
                int ranks = square / 6 - 3;
                int files = square % 6 - 2;
                int far = ranks * ranks + files * files;
                boolean isSlant = ranks == files || ranks == -files;
                boolean isTaken = switch (sort) {
                    case "straight 1" -> far == 1;
                    case "straight 5" -> ranks == 0 || files == 0;
                    case "slant 1" -> far == 2;
                    case "slant 5" -> isSlant;
                    case "ahead 5" -> false;
                    case "leap" -> far == 5;
                    default -> far == 2 && ranks == 1;
                };
                played(x, "add 1 if safe; add 2 if not safe", isTaken ? 2 : 1);
            }
        }
    }

    // "PLAYED of a READING: what MEASURE tells of all its MOVES together (0 without a text)."
    private static void playedWithoutText() {
        MoveNotes x = shufflers();
        x.length(30);
        C.same("without a text", x.best(-1), 0);
        Checks.measure(x, "add 2");
        C.same("all MOVES together", x.best(-1), 60);
        Checks.measure(x, "   ");
        C.same("a text without a LINE", x.best(-1), 0);
        x.length(0);
        Checks.measure(x, "add 2");
        C.same("of no MOVES", x.best(-1), 0);
        C.same("no MOVE 0", x.best(0), -3);
        for (int i : new int[] {-2, LOWEST}) {
            C.wrong("MOVE " + i, () -> x.best(i));
        }
    }

    // "BEST: of the first 200 READINGS of LEAST that with the least PLAYED"
    private static void firstOfTwoHundred() {
        // SIDE 0 has 20 MOVES of VALUE 5 (or 19), then one of VALUE 0; SIDE 1 has ten each time, the last of VALUE 0.
        for (int n = 19; n <= 20; n++) {
            MoveNotes x = new MoveNotes();
            Checks.kind(x, "straight 2; slant 2", 5);
            Checks.kind(x, "leap", 0);
            Checks.kind(x, "ahead 2", 1);
            Checks.kind(x, "ahead 1", 1);
            Checks.kind(x, "ahead 1", 0);
            x.put(0, 0, 0);
            x.put(2, 0, 0);
            x.put(5, 0, 0);
            x.put(13, 1, 0);
            for (int square = 30; square < 36; square++) {
                x.put(square, square < 34 ? 2 : square - 31, 1);
            }
            if (n == 19) {
                x.put(17, 2, 0);
            }
            x.length(2);
            Checks.measure(x, "add 1 * value");
            C.same("READING " + (10 * n + 9) + " is that of 0", x.moves(0, n), Checks.move(13, 9));
            C.same("PLAYED", x.best(-1), n == 19 ? 0 : 5);
            C.same("MOVE 1", x.best(1), Checks.move(35, 29));
        }
    }

    // "of several the first"
    private static void ofSeveralTheFirst() {
        MoveNotes x = new MoveNotes();
        Checks.kind(x, "straight 1", 4);
        Checks.kind(x, "straight 1", 3);
        Checks.kind(x, "straight 1", 3);
        x.put(0, 0, 0);
        x.put(14, 1, 0);
        x.put(33, 2, 0);
        x.length(1);
        Checks.measure(x, "add 1 * value");
        C.same("PLAYED", x.best(-1), 3);
        C.same("the first of those", x.best(0), Checks.move(14, 8));
        Checks.measure(x, "add 0 * value");
        C.same("of all", x.best(0), Checks.move(0, 1));
    }

    // "ODDS of MOVE i, to a WIDTH (0 to 2)"
    private static void widths() {
        MoveNotes x = walkers();
        x.length(10);
        for (int width : new int[] {-1, 3, LOWEST, HIGHEST}) {
            C.wrong("WIDTH " + width, () -> x.odds(0, width, true));
            C.wrong("WIDTH " + width + " of no MOVE", () -> x.odds(10, width, false));
        }
        for (int i : new int[] {-1, -2, LOWEST}) {
            C.wrong("MOVE " + i, () -> x.odds(i, 0, true));
        }
        for (int width = 0; width <= 2; width++) {
            for (int i = 0; i <= 10; i++) {
                C.same("MOVE " + i + " above", x.odds(i, width, false), i < 10 ? 1 : -3);
                C.same("MOVE " + i + " below", x.odds(i, width, true), i < 10 ? 1 : -3);
            }
            C.same("no MOVE far off", x.odds(HIGHEST, width, true), -3);
        }
    }

    private static void odds(MoveNotes x, int width, long above, long below) {
        C.same("above, WIDTH " + width, x.odds(0, width, false), above);
        C.same("below, WIDTH " + width, x.odds(0, width, true), below);
    }

    // "of all READINGS of a PRICE of LEAST to LEAST and WIDTH, each with 4 to the power of what its PRICE is below the last"
    private static void weights() {
        // LEAST 18 and a NOTE that is off: 0 to 1 by the RANK, 0 to 6 by the FILE.
        for (int rank = 1; rank <= 2; rank++) {
            for (int file = rank; file <= rank + 3; file++) {
                MoveNotes x = new MoveNotes();
                Checks.kind(x, "straight 1", 1);
                x.put(0, 0, 0);
                x.length(1);
                for (int b = 0; b < 3; b++) {
                    x.book(0);
                }
                x.note(2, 0, -1, 1, 1);
                x.price(6, 9);
                x.price(3, rank);
                x.price(2, file);
                C.same("LEAST", x.least(), 18 + rank);
                C.same("FIRST", x.read(0), Checks.move(0, 1));
                int off = file - rank;
                for (int width = 0; width <= 2; width++) {
                    long[] due = off > width ? new long[] {1, 1} : new long[][] {{1, 2}, {4, 5}, {16, 17}}[off];
                    odds(x, width, due[0], due[1]);
                }
            }
        }
    }

    // "a fraction without a common part"
    private static void withoutCommonPart() {
        for (int n = 1; n <= 4; n++) {
            // So many men of SIDE 0 of four MOVES each, who do not meet.
            MoveNotes x = new MoveNotes();
            Checks.kind(x, "straight 1", 1);
            int[] squares = {7, 10, 25, 28};
            for (int m = 0; m < n; m++) {
                x.put(squares[m], 0, 0);
            }
            x.put(35, 0, 1);
            x.length(1);
            odds(x, 0, 1, 4 * n);
            odds(x, 2, 1, 4 * n);
            x.length(2);
            C.same("MANY", x.many(), 4 * n * 2);
            odds(x, 0, 1, 4 * n);
        }
        // Four of PRICE 0 and one of PRICE 1 have MOVE 0 of FIRST, of these and so on: 4 to 5 is as it is.
        MoveNotes y = new MoveNotes();
        Checks.kind(y, "straight 2", 1);
        y.put(0, 0, 0);
        y.book(0);
        y.note(0, 0, -1, 1, 0);
        y.price(2, 1);
        odds(y, 1, 4, 5);
        odds(y, 2, 4, 5);
    }

    // "(Positions: for PRICES 0, 1, .. to LEAST and WIDTH.)"
    private static void oddsPositions() {
        int[] positions = {4000, 4001, 2666, 2667};
        int[] width = {1, 1, 2, 2};
        int[][][] men = {{{13, 0, 0}, {12, 1, 1}, {7, 1, 0}, {11, 0, 0}}, {{5, 0, 0}, {8, 1, 1}, {10, 0, 0}},
            {{35, 0, 0}, {33, 1, 1}, {32, 0, 0}}, {{35, 0, 0}, {24, 1, 1}, {3, 0, 0}}};
        for (int n = 0; n < 4; n++) {
            MoveNotes x = new MoveNotes();
            Checks.kind(x, "straight 5; slant 5", 1);
            Checks.kind(x, "leap", 1);
            for (int[] man : men[n]) {
                x.put(man[0], man[1], man[2]);
            }
            x.length(3);
            C.same("by PRICE 0", x.count(6), positions[n]);
            boolean isSpent = positions[n] * (width[n] + 1) > 8000;
            C.same("WIDTH " + width[n], x.odds(3, width[n], true), isSpent ? -2 : -3);
            C.same("one less", x.odds(3, width[n] - 1, true), -3);
            C.same("MOVE 0 is there", x.odds(0, width[n], true) > 0 ? 0 : x.odds(0, width[n], true), isSpent ? -2 : 0);
        }
    }

    // "SHARED of two BOOKS: how many MOVES of FIRST have NOTES in both that FIT with one SLIP (1 to 5) and are alike but for
    // FILE from"
    private static void sharedMoves() {
        // The same for MOVE 0 (to FILE 0, RANK 1): 0 as it is, 1 KIND, 2 FILE, 3 RANK, 4 SIDE, 5 FILE from.
        int[][] notes = {{0, -1, 0, 1}, {1, -1, 0, 1}, {0, -1, 1, 1}, {0, -1, 0, 2}, {0, -1, 0, 4}, {0, 3, 0, 1}};
        for (int a = 0; a < 6; a++) {
            for (int b = 0; b < 6; b++) {
                MoveNotes x = walkers();
                Checks.kind(x, "", 1);
                int[] prices = {0, 1, 1, 1, 2, 1};
                for (int slip = 1; slip <= 5; slip++) {
                    x.price(slip, prices[slip]);
                }
                x.length(1);
                x.book(0);
                x.book(0);
                x.note(0, notes[a][0], notes[a][1], notes[a][2], notes[a][3]);
                x.note(1, notes[b][0], notes[b][1], notes[b][2], notes[b][3]);
                C.same("SLIP of the first", x.slip(0, 0), a);
                C.same("SLIP of the second", x.slip(1, 0), b);
                int due = a == b && a > 0 ? 1 : 0;
                C.same("SHARED of " + a + " and " + b, x.shared(0, 1, false), due);
                C.same("COPIED of " + a + " and " + b, x.shared(0, 1, true), due);
                x.change(1, 0, notes[b][0], b == 5 ? 4 : 0, notes[b][2], notes[b][3]);
                C.same("but for FILE from", x.shared(0, 1, false), due);
            }
        }
        // RANK in both, to either side: not alike.
        MoveNotes y = walkers();
        y.price(3, 1);
        y.length(1);
        y.book(0);
        y.book(0);
        y.note(0, 0, -1, 0, 0);
        y.note(1, 0, -1, 0, 2);
        C.same("RANK one less, one more", y.shared(0, 1, false), 0);
        C.same("with itself", y.shared(1, 1, false), 1);
        // None in the other: LOST.
        MoveNotes z = walkers();
        z.price(3, 1);
        z.price(6, 1);
        z.length(1);
        for (int b = 0; b < 3; b++) {
            z.book(0);
        }
        z.note(1, 0, -1, 0, 0);
        C.same("RANK", z.slip(1, 0), 3);
        for (int b = 0; b < 3; b += 2) {
            C.same("LOST in the second", z.shared(1, b, false), 0);
            C.same("LOST in the first", z.shared(b, 1, false), 0);
            C.same("LOST in the first is not COPIED", z.shared(b, 1, true), 0);
            C.same("nor in the second", z.shared(1, b, true), 0);
        }
        C.same("LOST in both", z.shared(0, 2, false), 0);
    }

    // "COPIED: that is more than the MOVES whose NOTE in the second has a SLIP (1 to 5), but that in the first none (0), or
    // there is none (LOST)"
    private static void copied() {
        for (int both = 0; both <= 3; both++) {
            for (int own = 0; own <= 3; own++) {
                for (int lost = 0; lost <= 1; lost++) {
                    // First so many MOVES that both have off by the FILE, then so many that the second alone has.
                    MoveNotes x = walkers();
                    x.price(2, 1);
                    x.price(6, 1);
                    x.book(0);
                    x.book(0);
                    for (int n = 0; n < both + own; n++) {
                        int file = n % 2 == 0 ? 0 : 5;
                        int off = n % 2 == 0 ? 1 : 4;
                        int rank = n % 2 == 0 ? n / 2 + 1 : 4 - n / 2;
                        if (n < both || lost == 0) {
                            x.note(0, 0, -1, n < both ? off : file, rank);
                        }
                        x.note(1, 0, -1, off, rank);
                    }
                    C.same("SHARED", x.shared(0, 1, false), both);
                    C.same(both + " against " + own, x.shared(0, 1, true), both > own ? 1 : 0);
                    C.same("the first has none alone", x.shared(1, 0, true), both > 0 ? 1 : 0);
                }
            }
        }
    }

    // "ALIKE of two BOOKS: the most NOTES that both have in the same order (... others may lie between)"
    private static void alikeMost() {
        String[][] cases = {{"", "", "0"}, {"a", "", "0"}, {"", "a", "0"}, {"a", "a", "1"}, {"a", "b", "0"}, {"ab", "ba", "1"},
            {"abc", "axbxc", "3"}, {"abcbdab", "bdcaba", "4"}, {"aaa", "aa", "2"}, {"abab", "baba", "3"},
            {"abcdefghijklmnopqrstuvwx", "abcdefghijklmnopqrstuvwx", "24"},
            {"abcdefghijklmnopqrstuvwx", "xwvutsrqponmlkjihgfedcba", "1"},
            {"abcdefghijklmnopqrstuvwx", "bcdefghijklmnopqrstuvwxa", "23"}, {"aaaaaaaaaaaaaaaaaaaaaaaa", "a", "1"}};
        for (String[] c : cases) {
            MoveNotes x = new MoveNotes();
            Checks.kind(x, "", 0);
            for (int b = 0; b < 2; b++) {
                x.book(b);
                for (char n : c[b].toCharArray()) {
                    x.note(b, 0, -1, (n - 'a') % 6, (n - 'a') / 6);
                }
            }
            int due = Integer.parseInt(c[2]);
            C.same("ALIKE of " + c[0] + " and " + c[1], x.alike(0, 1), due);
            C.same("the other way round", x.alike(1, 0), due);
            C.same("the first with itself", x.alike(0, 0), c[0].length());
            C.same("the second with itself", x.alike(1, 1), c[1].length());
        }
    }

    // "(alike in all four; ...)"
    private static void alikeOfAllFour() {
        int[][] others = {{0, -1, 3, 3, 1}, {1, -1, 3, 3, 0}, {0, 3, 3, 3, 0}, {0, -1, 2, 3, 0}, {0, -1, 3, 2, 0}};
        for (int[] n : others) {
            MoveNotes x = new MoveNotes();
            Checks.kind(x, "", 0);
            Checks.kind(x, "", 0);
            x.book(0);
            x.book(1);
            x.note(0, 0, -1, 3, 3);
            x.note(1, n[0], n[1], n[2], n[3]);
            C.same("KIND " + n[0] + ", from " + n[1] + ", to " + n[2] + " " + n[3], x.alike(0, 1), n[4]);
        }
    }

    // "WAY of a BOOK: that by which LEAST of it alone (with LENGTH and PICTURES) is less; none, if both are alike"
    private static void wayIsLess() {
        for (int own = 0; own < 2; own++) {
            for (int rank = 0; rank < 6; rank++) {
                // MOVE 1 is to RANK 4 as it is, to RANK 1 as SIDE 1 counts.
                MoveNotes x = walkers();
                x.price(3, 1);
                x.price(4, 3);
                x.book(own);
                x.note(0, 0, -1, 0, 1);
                x.note(0, 0, -1, 5, rank);
                int[] zero = {-1, 3, -1, 1, 0, 1};
                int[] one = {1, 0, 1, -1, 3, -1};
                int a = zero[rank] < 0 ? 99 : zero[rank];
                int b = one[rank] < 0 ? 99 : one[rank];
                C.same("noted RANK " + rank, x.way(0), a < b ? 0 : b < a ? 1 : -3);
                C.same("LEAST by its own WAY", x.least(), own == 0 ? zero[rank] : one[rank]);
                x.length(3);
                C.same("LENGTH 3 has none", x.way(0), -3);
                x.length(2);
                C.same("LENGTH 2 has", x.way(0), a < b ? 0 : 1);
                x.picture(2, 29, -1, 0);
                C.same("a PICTURE that bars", x.way(0), -3);
            }
        }
        MoveNotes y = walkers();
        y.book(1);
        C.same("no NOTES: both alike", y.way(0), -3);
        y.price(6, 1);
        y.length(3);
        C.same("both alike above 0", y.way(0), -3);
    }

    // "-3, if both are alike (also, if there is no READING by either; one without a READING is more than one with)"
    private static void wayWithoutReading() {
        MoveNotes x = walkers();
        x.book(0);
        x.note(0, 0, -1, 3, 3);
        C.same("by neither", x.way(0), -3);
        x.change(0, 0, 0, -1, 0, 1);
        x.note(0, 0, -1, 5, 4);
        C.same("by 0 alone", x.way(0), 0);
        x.change(0, 1, 0, -1, 5, 1);
        C.same("by 1 alone", x.way(0), 1);
        // Of PRICE 20 against none, of PRICE 0 against none.
        x.price(6, 9);
        x.price(4, 2);
        x.length(4);
        C.same("18, and 20", x.way(0), 1);
        x.price(4, 3);
        C.same("18, and 21 is none", x.way(0), 1);
        x.change(0, 1, 0, -1, 5, 4);
        C.same("and the other way round", x.way(0), 0);
    }

    // "SPENT, if one is"
    private static void wayIsSpent() {
        for (int swift = 0; swift < 2; swift++) {
            // The walker 33 goes to 27, RANK 4 as it is, 1 as SIDE 1 counts: by that WAY it is no more than two MOVES.
            MoveNotes x = new MoveNotes();
            Checks.kind(x, "straight 5; slant 5", 1);
            Checks.kind(x, "ahead 1", 1);
            x.put(0, 0, 0);
            x.put(14, 0, 0);
            x.put(35, 0, 1);
            x.put(33, 1, 1);
            x.price(6, 1);
            for (int way = 0; way < 2; way++) {
                x.book(way);
                x.note(way, 0, -1, 0, 5);
                x.note(way, 1, -1, 3, swift == 0 ? 4 : 1);
                C.same("SPENT by the other WAY", x.way(way), -2);
            }
            x.length(2);
            C.same("both are not, if READINGS are short", x.way(0), swift);
            C.same("also for the other BOOK", x.way(1), swift);
        }
    }

    // "CHEAPER: for a SLIP 1 to 7: by how much LEAST would be less, if its PRICE were 1 (0, if that is 1 or 0 now)"
    private static void cheaperOrZero() {
        MoveNotes x = walkers();
        x.book(0);
        x.note(0, 0, -1, 1, 1);
        for (int n = 1; n <= 9; n++) {
            x.price(2, n);
            C.same("LEAST", x.least(), n);
            C.same("FILE for " + n, x.cheaper(2), n - 1);
            C.same("it is as it was", x.least(), n);
            for (int slip = 1; slip <= 7; slip++) {
                if (slip != 2) {
                    C.same("SLIP " + slip + " for 0", x.cheaper(slip), 0);
                }
            }
        }
        // A SLIP that never is would not be either, though RANK 1 for 1 would be less than 9.
        C.same("RANK is 0 now", x.cheaper(3), 0);
        x.change(0, 0, 0, -1, 0, 2);
        C.same("no READING", x.cheaper(3), -1);
        x.price(3, 1);
        C.same("1 now", x.cheaper(3), 0);
        x.price(3, 2);
        C.same("2 now", x.cheaper(3), 1);
    }

    private static void cheaperByOne() {
        // All of a SLIP are less: three LOST for 6, one TWICE for 2.
        MoveNotes x = walkers();
        x.book(0);
        x.note(0, 0, -1, 5, 3);
        x.note(0, 0, -1, 5, 3);
        x.price(6, 6);
        x.price(7, 2);
        C.same("LEAST", x.least(), 20);
        C.same("LOST for 1", x.cheaper(6), 15);
        C.same("TWICE for 1", x.cheaper(7), 1);
        x.price(7, 3);
        C.same("21 is none", x.least(), -1);
        C.same("though with LOST for 1 there is one", x.cheaper(6), -1);
    }

    /** The DRAWS of a SEED, by numbers that do not go round. */
    private static int[] draws(int seed, int n) {
        BigInteger round = BigInteger.ONE.shiftLeft(32);
        BigInteger s = BigInteger.valueOf(seed).mod(round);
        int[] draws = new int[n];
        for (int i = 0; i < n; i++) {
            s = s.multiply(BigInteger.valueOf(1103515245L)).add(BigInteger.valueOf(12345)).mod(round);
            draws[i] = s.shiftRight(16).mod(BigInteger.ONE.shiftLeft(15)).intValue();
        }
        return draws;
    }

    // "WRITTEN: a BOOK of a WAY by a SEED: so many MOVES (1 to 24; fewer, if there is none to go on with)"
    private static void writtenMoves() {
        for (int moves : new int[] {0, -1, 25, LOWEST, HIGHEST}) {
            MoveNotes x = shufflers();
            C.wrong(moves + " MOVES", () -> x.write(0, moves, 0, 1));
            C.same("no BOOK", x.count(2), 0);
        }
        for (int moves = 1; moves <= 24; moves++) {
            MoveNotes x = shufflers();
            C.same("a BOOK", x.write(moves % 2, moves, 0, moves), 0);
            C.same("NOTES of " + moves + " MOVES", x.count(3), moves);
            C.same("as it was played", x.least(), 0);
            C.same("MOVES", x.read(-1), moves);
            MoveNotes y = walkers();
            y.write(moves % 2, moves, 0, moves);
            C.same("ten at most", y.count(3), moves < 10 ? moves : 10);
        }
        MoveNotes z = new MoveNotes();
        C.same("nobody: a BOOK", z.write(0, 24, 9, 5), 0);
        C.same("of no NOTES", z.count(3), 0);
        Checks.kind(z, "straight 1", 1);
        z.put(0, 0, 1);
        z.write(0, 24, 9, 5);
        C.same("nobody of SIDE 0", z.count(3), 0);
        z.put(0, 0, 0);
        z.write(0, 24, 9, 5);
        C.same("nobody of SIDE 1", z.count(3), 1);
    }

    // "SEED is 1103515245 times SEED and 12345, as an int that goes round; bits 16 to 30. The MOVE: of all in order the one by
    // DRAW modulo how many; its NOTE without FILE from; then one more DRAW"
    private static void writtenDraws() {
        for (int seed : new int[] {0, 1, -1, 2, 12345, -12345, 0x7fff, 0x8000, 0xffff, 0x10000, 987654321, LOWEST, LOWEST + 1,
            HIGHEST, HIGHEST - 1}) {
            for (int told = 0; told <= 9; told += 9) {
                int[] d = draws(seed, 6);
                MoveNotes x = new MoveNotes();
                Checks.kind(x, "straight 1", 1);
                Checks.kind(x, "slant 1", 1);
                Checks.kind(x, "", 1);
                x.put(13, 0, 0);
                x.put(22, 1, 1);
                x.write(0, 2, told, seed);
                // 13 goes to 7, 12, 14, 19; 22 goes to 15, 17, 27, 29.
                int first = new int[] {7, 12, 14, 19}[d[0] % 4];
                int[] one = {0, first % 6, first / 6};
                int at = 2;
                if (d[1] % 10 < told) {
                    slip(one, d[2] % 3, 3);
                    at = 3;
                }
                int second = new int[] {15, 17, 27, 29}[d[at] % 4];
                int[] two = {1, second % 6, second / 6};
                if (d[at + 1] % 10 < told) {
                    slip(two, d[at + 2] % 3, 3);
                }
                String what = "SEED " + seed + ", told " + told + ", ";
                for (int n = 0; n < 2; n++) {
                    int[] due = n == 0 ? one : two;
                    C.same(what + "KIND of " + n, x.look(0, n, 0), due[0]);
                    C.same(what + "FILE from of " + n, x.look(0, n, 1), -1);
                    C.same(what + "FILE to of " + n, x.look(0, n, 2), due[1]);
                    C.same(what + "RANK of " + n, x.look(0, n, 3), due[2]);
                }
            }
        }
    }

    private static void slip(int[] note, int sort, int kinds) {
        if (sort == 0) {
            note[0] = (note[0] + 1) % kinds;
        } else {
            note[sort] = note[sort] == 5 ? 4 : note[sort] + 1;
        }
    }

    // "0 KIND one more (modulo how many KINDS), 1 FILE to one more (5: one less), 2 RANK likewise"
    private static void writtenSlips() {
        int[] seen = new int[3];
        for (int seed = 0; seed < 60; seed++) {
            int[] d = draws(seed, 3);
            for (int square : new int[] {7, 14, 28, 29, 34}) {
                for (int kinds = 1; kinds <= 5; kinds++) {
                    MoveNotes x = new MoveNotes();
                    for (int k = 0; k < kinds; k++) {
                        Checks.kind(x, "straight 1", 1);
                    }
                    // The last KIND; own men all around but on one SQUARE ahead, or beside.
                    int to = square == 34 ? 35 : square == 28 ? 34 : square == 29 ? 35 : square + 1;
                    for (int s = 0; s < 36; s++) {
                        x.put(s, 0, 0);
                    }
                    x.put(square, kinds - 1, 0);
                    x.put(to, -1, 0);
                    int all = x.moves(0, -1);
                    int move = x.moves(0, d[0] % all);
                    int[] due = {move / 36 == square ? kinds - 1 : 0, to % 6, to / 6};
                    if (d[1] % 10 < 9) {
                        slip(due, d[2] % 3, kinds);
                        seen[d[2] % 3]++;
                    }
                    C.same("its number", x.write(seed % 2, 1, 9, seed), 0);
                    C.same("KIND", x.look(0, 0, 0), due[0]);
                    C.same("FILE", x.look(0, 0, 2), due[1]);
                    C.same("RANK", x.look(0, 0, 3), due[2]);
                }
            }
        }
        for (int sort = 0; sort < 3; sort++) {
            C.isTrue("SLIPS by " + sort, seen[sort] > 100);
        }
    }

    // "if that modulo 10 is below a told number (0 to 9)"
    private static void writtenToldNumber() {
        for (int told : new int[] {-1, 10, LOWEST, HIGHEST}) {
            MoveNotes x = walkers();
            C.wrong("told " + told, () -> x.write(0, 1, told, 1));
            C.same("no BOOK", x.count(2), 0);
        }
        boolean[] seen = new boolean[10];
        for (int seed = 0; seed < 40; seed++) {
            int due = draws(seed, 2)[1] % 10;
            seen[due] = true;
            for (int told = 0; told <= 9; told++) {
                MoveNotes x = walkers();
                Checks.kind(x, "", 1);
                x.write(0, 1, told, seed);
                // To FILE 0, RANK 1, of KIND 0: any SLIP makes it otherwise.
                boolean isSlip = x.look(0, 0, 0) != 0 || x.look(0, 0, 2) != 0 || x.look(0, 0, 3) != 1;
                C.same("SEED " + seed + ", told " + told, isSlip ? 1 : 0, due < told ? 1 : 0);
            }
        }
        for (int n = 0; n < 10; n++) {
            C.isTrue("a DRAW of " + n, seen[n]);
        }
    }

    // "THE IMAGE (one) of all may be kept, and gone back to"
    private static void image() {
        MoveNotes x = walkers();
        C.isFalse("none was kept", x.back());
        C.same("and nothing happens", x.count(1), 2);
        x.image();
        x.put(1, 0, 0);
        C.isTrue("gone back to", x.back());
        C.same("two men", x.count(1), 2);
        C.isTrue("and once more", x.back());
        x.put(1, 0, 0);
        x.image();
        x.put(2, 0, 0);
        C.isTrue("there is one", x.back());
        C.same("the latest", x.count(1), 3);
        C.isFalse("another object has none", walkers().back());
    }

    // "(but for the TAPE, fault() and THE IMAGE itself)"
    private static void imageOfAll() {
        MoveNotes x = walkers();
        x.image();
        Checks.feed(x, "leap");
        C.isTrue("back", x.back());
        C.same("the TAPE stays", x.feed(0, 0, 0, 0, 0), 24);
        x.end(4);
        C.same("its text is right", x.kind(1), 1);
        Checks.feed(x, "leap hop");
        C.wrong("a wrong text", () -> x.kind(1));
        C.isTrue("back", x.back());
        C.same("fault() stays", x.fault(), 5);
        C.same("the KIND does not", x.count(0), 1);
        Checks.feed(x, "bite");
        C.same("a right text", x.kind(1), 1);
        C.isTrue("back", x.back());
        C.same("fault() stays", x.fault(), -1);
    }
}
