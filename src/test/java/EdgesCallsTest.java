import java.util.ArrayList;
import java.util.List;

/**
 * The edges that the paragraph ahead of promise 1 names, and those of promises 1 to 34. One method a sentence; the sentence
 * stands ahead of it.
 */
public final class EdgesCallsTest {
    private static final Checks C = new Checks("EdgesCallsTest");
    private static final int LOWEST = Integer.MIN_VALUE;
    private static final int HIGHEST = Integer.MAX_VALUE;

    public static void main(String[] args) {
        toldFirst();
        changesNothing();
        usesTheTapeUp();
        promise1();
        promise2();
        promise2Bytes();
        promise3();
        promise4();
        promise4Full();
        promise5();
        promise6();
        promise7();
        promise8();
        promise9();
        promise10();
        promise11();
        promise12();
        promise13();
        promise14();
        promise15();
        promise16();
        promise17To20();
        promise21And22();
        promise23To27();
        promise28To31();
        promise32And33();
        promise34();
        C.end();
    }

    private static final int BLANKS = 0x20202020;

    private static MoveNotes walkers() {
        return SettingsTest.walkers();
    }

    /** All is full: 5 KINDS, 3 BOOKS of 24 NOTES, 10 PICTURES. */
    private static MoveNotes full() {
        MoveNotes x = EdgesReadingsTest.shufflers();
        for (int k = 2; k < 5; k++) {
            Checks.kind(x, "leap", k);
        }
        for (int b = 0; b < 3; b++) {
            x.book(0);
            EdgesReadingsTest.shuffle(x, b, 0, 24);
        }
        for (int n = 0; n < 10; n++) {
            x.picture(n, 2, 1, 0);
        }
        return x;
    }

    // "Of several exceptions the one told first is thrown"
    private static void toldFirst() {
        MoveNotes x = full();
        // IndexOutOfBoundsException ahead of IllegalArgumentException, that ahead of UnsupportedOperationException.
        C.noPlace("put: SQUARE, SIDE", Checks.of(() -> x.put(36, 0, 2)));
        C.noPlace("put: KIND, SIDE", Checks.of(() -> x.put(0, 5, 2)));
        C.wrong("put: SIDE", Checks.of(() -> x.put(0, 0, 2)));
        C.noPlace("note: BOOK, FILE, full", () -> x.note(3, 0, -1, 6, 0));
        C.noPlace("note: KIND, FILE, full", () -> x.note(0, 5, -1, 6, 0));
        C.noPlace("note: KIND, full", () -> x.note(0, 5, -1, 0, 0));
        C.noPlace("note: BOOK, full", () -> x.note(3, 0, -1, 0, 0));
        C.wrong("note: FILE from, full", () -> x.note(0, 0, 6, 0, 0));
        C.wrong("note: FILE to, full", () -> x.note(0, 0, -1, 6, 0));
        C.wrong("note: RANK, full", () -> x.note(0, 0, -1, 0, 6));
        C.full("note: full", () -> x.note(0, 0, -1, 0, 0));
        C.noPlace("change: BOOK, RANK", () -> x.change(3, 0, 0, -1, 0, 6) ? 1 : 0);
        C.noPlace("change: NOTE, RANK", () -> x.change(0, 24, 0, -1, 0, 6) ? 1 : 0);
        C.noPlace("change: KIND, RANK", () -> x.change(0, 0, 5, -1, 0, 6) ? 1 : 0);
        C.wrong("change: RANK", () -> x.change(0, 0, 0, -1, 0, 6) ? 1 : 0);
        C.noPlace("look: BOOK, what", () -> x.look(3, 0, 4));
        C.noPlace("look: NOTE, what", () -> x.look(0, 24, 4));
        C.text("look: what", Checks.outcome(() -> x.look(0, 0, 4)), "NoSuchElementException");
        C.noPlace("price: SLIP, PRICE", () -> x.price(8, 10));
        C.wrong("price: PRICE", () -> x.price(7, 10));
        C.noPlace("picture: SQUARE, MOVES, full", () -> x.picture(31, 36, 0, 0));
        C.noPlace("picture: KIND, SIDE, full", () -> x.picture(0, 0, 5, 2));
        C.noPlace("picture: KIND, full", () -> x.picture(0, 0, 5, 0));
        C.wrong("picture: MOVES, full", () -> x.picture(31, 0, 0, 0));
        C.wrong("picture: SIDE, full", () -> x.picture(0, 0, 0, 2));
        C.full("picture: full", () -> x.picture(0, 0, 0, 0));
        C.wrong("book: WAY, full", () -> x.book(2));
        C.full("book: full", () -> x.book(1));
        C.wrong("write: WAY, full", () -> x.write(2, 1, 0, 0));
        C.wrong("write: MOVES, full", () -> x.write(0, 25, 0, 0));
        C.wrong("write: told number, full", () -> x.write(0, 1, 10, 0));
        C.full("write: full", () -> x.write(0, 1, 0, 0));
        Checks.feed(x, "leap 1");
        C.wrong("kind: text, VALUE, full", () -> x.kind(21));
        Checks.feed(x, "leap 1");
        C.wrong("kind: text, full", () -> x.kind(20));
        Checks.feed(x, "leap");
        C.wrong("kind: VALUE, full", () -> x.kind(21));
        Checks.feed(x, "leap");
        C.full("kind: full", () -> x.kind(20));
    }

    /** All that can be seen of an object but the TAPE and fault(). */
    private static String seen(MoveNotes x) {
        List<Object> all = new ArrayList<>();
        for (int what = 0; what <= 7; what++) {
            all.add(x.count(what));
        }
        for (int side = 0; side < 2; side++) {
            for (int i = -1; i < x.moves(side, -1); i++) {
                all.add(x.moves(side, i));
            }
        }
        for (int slip = 1; slip <= 7; slip++) {
            int price = x.price(slip, 0);
            x.price(slip, price);
            all.add(price);
        }
        for (int book = 0; book < x.count(2); book++) {
            String look = "";
            for (int note = 0; !look.endsWith("Exception"); note++) {
                for (int what = 0; what < 4; what++) {
                    int n = note;
                    int w = what;
                    int b = book;
                    look = Checks.outcome(() -> x.look(b, n, w));
                    all.add(look);
                }
            }
            all.add(x.way(book));
            all.add(x.breaks(book));
        }
        for (int i = -1; i < 3; i++) {
            all.add(x.read(i));
            all.add(x.best(i));
        }
        all.add(x.least());
        all.add(x.many());
        return all.toString();
    }

    // "a call that throws changes nothing but the TAPE, where it is used up"
    private static void changesNothing() {
        MoveNotes x = full();
        x.length(24);
        x.price(3, 7);
        Checks.measure(x, "add 3 * number if safe");
        Checks.feed(x, "bite");
        String before = seen(x);
        Checks.Call[] calls = {Checks.of(() -> x.put(36, 0, 0)), Checks.of(() -> x.put(0, 5, 0)),
            Checks.of(() -> x.put(0, 0, 2)), () -> x.moves(2, -1), () -> x.moves(0, -2), () -> x.book(2), () -> x.book(0),
            () -> x.note(3, 0, -1, 0, 0), () -> x.note(0, 5, -1, 0, 0), () -> x.note(0, 0, 6, 0, 0),
            () -> x.note(0, 0, -1, 0, 0), () -> x.change(0, 24, 0, -1, 0, 0) ? 1 : 0,
            () -> x.change(0, 0, 5, -1, 0, 0) ? 1 : 0, () -> x.change(0, 0, 1, 3, 3, 6) ? 1 : 0,
            () -> x.change(0, 0, 1, 3, 6, 3) ? 1 : 0, () -> x.look(0, 0, 4), () -> x.look(0, 24, 0), () -> x.write(2, 1, 0, 0),
            () -> x.write(0, 1, 0, 0), () -> x.price(8, 1), () -> x.price(3, 10), Checks.of(() -> x.length(31)),
            Checks.of(() -> x.length(-2)), () -> x.picture(31, 0, 0, 0), () -> x.picture(0, 0, 0, 0), () -> x.read(-2),
            () -> x.readNext(-2), () -> x.slip(0, 24), () -> x.slips(0, 8), () -> x.slips(3, 1), () -> x.breaks(3),
            () -> x.brief(-1), () -> x.best(-2), () -> x.odds(-1, 0, true), () -> x.odds(0, 3, true),
            () -> x.shared(0, 3, true), () -> x.alike(3, 0), () -> x.way(3), () -> x.cheaper(8)};
        for (int n = 0; n < calls.length; n++) {
            C.isTrue("call " + n + " throws", Checks.outcome(calls[n]).endsWith("Exception"));
            if (n % 3 == 0 || n == calls.length - 1) {
                C.text("behind call " + n, seen(x), before);
            }
        }
        C.isFalse("nor is there an IMAGE", x.back());
        C.isTrue("nor is the TAPE used up", x.end(4));
        C.isFalse("nor longer", x.end(5));
        // Those that use it up.
        C.full("kind", () -> x.kind(1));
        C.text("behind kind", seen(x), before);
        Checks.feed(x, "add 1000");
        C.wrong("measure", () -> x.measure());
        C.text("behind measure", seen(x), before);
    }

    // "but the TAPE, where it is used up"
    private static void usesTheTapeUp() {
        MoveNotes x = full();
        String[] texts = {"leap", "leap 1", ""};
        for (String text : texts) {
            for (int value : new int[] {0, 21}) {
                Checks.feed(x, text + " ");
                C.isTrue("kind(" + value + ") of " + text + " throws", Checks.outcome(() -> x.kind(value)).endsWith("Exception"));
                C.isFalse("the TAPE is used up", x.end(1));
                C.isTrue("it is empty", x.end(0));
            }
        }
        Checks.feed(x, "add");
        C.wrong("measure of add", () -> x.measure());
        C.isFalse("the TAPE is used up", x.end(1));
        C.same("from the begin again", x.feed(BLANKS, BLANKS, BLANKS, BLANKS, BLANKS), 20);
    }

    // "An empty BOARD, no KINDS, BOOKS, PICTURES, LENGTH, MEASURE."
    private static void promise1() {
        MoveNotes x = new MoveNotes();
        int[] due = {0, 0, 0, 0, 0, -1, 1, 0};
        for (int what = 0; what < due.length; what++) {
            C.same("count(" + what + ")", x.count(what), due[what]);
        }
        C.noPlace("no KIND", Checks.of(() -> x.put(0, 0, 0)));
        C.noPlace("no BOOK", () -> x.breaks(0));
        C.same("no MOVES of SIDE 0", x.moves(0, -1), 0);
        C.same("no MOVES of SIDE 1", x.moves(1, -1), 0);
        C.same("LEAST", x.least(), 0);
        C.same("MANY", x.many(), 1);
        C.same("FIRST", x.read(-1), 0);
        C.same("NEXT", x.readNext(-1), -3);
        C.same("PART", x.part(), -3);
        C.same("BRIEF", x.brief(0), -3);
        C.same("PLAYED", x.best(-1), 0);
        C.same("ODDS", x.odds(0, 0, false), -3);
        C.same("CHEAPER", x.cheaper(1), 0);
        C.same("fault()", x.fault(), -1);
        C.isFalse("no IMAGE", x.back());
        C.isFalse("no TAPE", x.end(1));
    }

    // "Twenty bytes come behind the TAPE ...: how many it has; NONE, and none come, if it would have more than 400."
    private static void promise2() {
        for (int size = 0; size <= 400; size++) {
            if (size % 20 > 1 && size % 20 < 19 && size < 380) {
                continue;
            }
            MoveNotes x = new MoveNotes();
            for (int n = 0; n < 20; n++) {
                x.feed(BLANKS, BLANKS, BLANKS, BLANKS, BLANKS);
            }
            C.isTrue("a TAPE of " + size, x.end(size));
            C.same("twenty more", x.feed(0, 0, 0, 0, 0), size > 380 ? -1 : size + 20);
            C.isTrue("so many are there", x.end(size > 380 ? size : size + 20));
            C.isFalse("and no more", x.end(size > 380 ? size + 1 : size + 21));
        }
    }

    // "of each number the highest first"
    private static void promise2Bytes() {
        for (int at = 0; at < 20; at++) {
            for (int b : new int[] {'a', 0, 127, 128, 255}) {
                int[] five = {BLANKS, BLANKS, BLANKS, BLANKS, BLANKS};
                five[at / 4] = five[at / 4] & ~(255 << 24 - at % 4 * 8) | b << 24 - at % 4 * 8;
                MoveNotes x = new MoveNotes();
                x.feed(five[0], five[1], five[2], five[3], five[4]);
                C.wrong("a byte " + b, () -> x.kind(0));
                C.same("its place", x.fault(), at);
            }
        }
    }

    // "The TAPE has its first n bytes alone: true; false, and nothing happens, if it has fewer, or n is below 0."
    private static void promise3() {
        for (int n = 0; n <= 20; n++) {
            MoveNotes x = new MoveNotes();
            x.feed(0x6c656170, 0x3b6c6561, 0x703b6c65, 0x61703b6c, 0x6561703b);
            for (int wrong : new int[] {-1, 21, LOWEST, HIGHEST}) {
                C.isFalse("end(" + wrong + ")", x.end(wrong));
            }
            C.isTrue("end(" + n + ")", x.end(n));
            C.isFalse("no longer " + (n + 1), x.end(n + 1));
            C.isTrue("once more", x.end(n));
            // leap;leap;leap;leap; is right behind each leap, and of nothing.
            C.text("its text", Checks.outcome(() -> x.kind(0)), n == 0 || n % 5 == 4 ? "0" : "IllegalArgumentException");
            C.same("where it is wrong", x.fault(), n == 0 || n % 5 == 4 ? -1 : n % 5 == 0 ? n : n - n % 5);
        }
    }

    // "Uses the TAPE up: a KIND with a VALUE: its number. IllegalArgumentException: the text is wrong, or VALUE is none"
    private static void promise4() {
        MoveNotes x = new MoveNotes();
        Checks.feed(x, "leap");
        C.same("the first", x.kind(20), 0);
        C.isFalse("the TAPE is used up", x.end(1));
        C.same("of no text", x.kind(0), 1);
        for (int value : new int[] {-1, 21}) {
            Checks.feed(x, "leap");
            C.wrong("VALUE " + value, () -> x.kind(value));
            Checks.feed(x, "leap;");
            C.wrong("a wrong text too", () -> x.kind(value));
            C.same("that is told", x.fault(), 5);
        }
        C.same("two", x.count(0), 2);
        C.same("the next", Checks.kind(x, "bite", 0), 2);
    }

    // "UnsupportedOperationException: there are 5."
    private static void promise4Full() {
        MoveNotes x = new MoveNotes();
        for (int n = 0; n < 5; n++) {
            C.same("KIND " + n, Checks.kind(x, "leap", n), n);
        }
        Checks.feed(x, "leap");
        C.full("a sixth", () -> x.kind(0));
        x.image();
        x.back();
        C.full("still", () -> x.kind(0));
    }

    // "Uses the TAPE up: MEASURE, in place of the one before: how many LINES it has."
    private static void promise5() {
        MoveNotes x = walkers();
        x.length(1);
        C.same("none has none", x.best(-1), 0);
        C.same("three", Checks.measure(x, "add 1;add 2;add 4"), 3);
        C.isFalse("the TAPE is used up", x.end(1));
        C.same("of three", x.best(-1), 7);
        C.same("one in its place", Checks.measure(x, "add 8"), 1);
        C.same("of one", x.best(-1), 8);
        Checks.feed(x, "add 1;");
        C.wrong("a wrong text", () -> x.measure());
        C.same("not in its place", x.best(-1), 8);
        C.same("no LINE", x.measure(), 0);
        C.same("in its place", x.best(-1), 0);
    }

    // "The first wrong byte of the latest text that was read; NONE without one, and ahead of any."
    private static void promise6() {
        MoveNotes x = new MoveNotes();
        C.same("ahead of any", x.fault(), -1);
        Checks.feed(x, "x");
        C.same("not read yet", x.fault(), -1);
        C.wrong("x", () -> x.measure());
        C.same("0 is a byte", x.fault(), 0);
        C.same("as often as one asks", x.fault(), 0);
        x.image();
        x.back();
        x.length(0);
        C.same("whatever else is called", x.fault(), 0);
        C.same("a text that is right", Checks.kind(x, "leap", 0), 0);
        C.same("has none", x.fault(), -1);
        Checks.feed(x, "leap;leap hop");
        C.wrong("a wrong KIND", () -> x.kind(0));
        C.same("behind a MEASURE too", x.fault(), 10);
        C.same("an empty text", x.measure(), 0);
        C.same("has none", x.fault(), -1);
    }

    // "a man on a SQUARE (kind NONE: nothing; side does not matter then)"
    private static void promise7() {
        MoveNotes x = walkers();
        for (int side : new int[] {0, 1, 2, -1, LOWEST, HIGHEST}) {
            x.put(14, 0, 1);
            C.same("one more", x.count(1), 3);
            x.put(14, MoveNotes.NONE, side);
            C.same("nothing of SIDE " + side, x.count(1), 2);
        }
        C.noPlace("nothing nowhere", Checks.of(() -> x.put(36, -1, 2)));
        // The same number of men, if he stands in another's place.
        x.put(35, 0, 0);
        C.same("in his place", x.count(1), 2);
        C.same("of another SIDE", x.moves(1, -1), 0);
    }

    // "(i NONE: how many), or the i-th of these (from 0 on ...; NONE without)"; "the SIDE is none, or i is below NONE"
    private static void promise8() {
        MoveNotes x = walkers();
        C.same("how many", x.moves(0, -1), 1);
        C.same("the first", x.moves(0, 0), Checks.move(0, 6));
        C.same("no second", x.moves(0, 1), -1);
        C.same("none far off", x.moves(1, HIGHEST), -1);
        C.wrong("-2", () -> x.moves(0, -2));
        C.wrong("lowest", () -> x.moves(1, LOWEST));
        x.put(0, -1, 0);
        C.same("none", x.moves(0, -1), 0);
        C.same("no first", x.moves(0, 0), -1);
        // From START, whatever THE LENGTH, PICTURES and BOOKS say.
        x.length(0);
        x.picture(0, 3, 0, 0);
        x.book(0);
        C.same("of SIDE 1 as ever", x.moves(1, 0), Checks.move(35, 29));
    }

    // "A BOOK: its number. IllegalArgumentException: the WAY is none; UnsupportedOperationException: there are 3."
    private static void promise9() {
        MoveNotes x = new MoveNotes();
        C.same("0", x.book(0), 0);
        C.wrong("WAY -1", () -> x.book(-1));
        C.same("1", x.book(1), 1);
        C.wrong("WAY 2", () -> x.book(2));
        C.same("2", x.book(1), 2);
        C.full("3", () -> x.book(0));
        C.same("three", x.count(2), 3);
    }

    // "A NOTE of a BOOK: its number (from NONE: none)."
    private static void promise10() {
        MoveNotes x = walkers();
        x.book(0);
        C.same("0", x.note(0, 0, MoveNotes.NONE, 5, 5), 0);
        C.same("none", x.look(0, 0, 1), -1);
        C.same("1", x.note(0, 0, 5, 0, 0), 1);
        C.same("5", x.look(0, 1, 1), 5);
        C.wrong("from 6", () -> x.note(0, 0, 6, 0, 0));
        C.same("2", x.note(0, 0, 0, 0, 0), 2);
        C.same("0", x.look(0, 2, 1), 0);
    }

    // "A NOTE is set otherwise: whether it was otherwise."
    private static void promise11() {
        MoveNotes x = walkers();
        Checks.kind(x, "", 1);
        x.book(0);
        int[] was = {0, -1, 2, 3};
        x.note(0, was[0], was[1], was[2], was[3]);
        C.isFalse("as it was", x.change(0, 0, 0, -1, 2, 3));
        int[][] others = {{1, -1, 2, 3}, {0, 0, 2, 3}, {0, -1, 1, 3}, {0, -1, 2, 4}};
        for (int[] n : others) {
            C.isTrue("otherwise", x.change(0, 0, n[0], n[1], n[2], n[3]));
            for (int what = 0; what < 4; what++) {
                C.same("what " + what, x.look(0, 0, what), n[what]);
            }
            C.isFalse("as it is", x.change(0, 0, n[0], n[1], n[2], n[3]));
            C.isTrue("as it was", x.change(0, 0, was[0], was[1], was[2], was[3]));
        }
        C.same("one NOTE", x.count(3), 1);
    }

    // "Of a NOTE what 0 KIND, 1 FILE from (NONE), 2 FILE to, 3 RANK to. NoSuchElementException: another what."
    private static void promise12() {
        MoveNotes x = walkers();
        Checks.kind(x, "", 1);
        x.book(1);
        x.note(0, 1, 2, 3, 4);
        for (int what = 0; what < 4; what++) {
            C.same("what " + what, x.look(0, 0, what), what + 1);
        }
        for (int what : new int[] {-1, 4, LOWEST, HIGHEST}) {
            C.text("what " + what, Checks.outcome(() -> x.look(0, 0, what)), "NoSuchElementException");
        }
        x.change(0, 0, 1, -1, 3, 4);
        C.same("none", x.look(0, 0, 1), -1);
    }

    // "WRITTEN: the BOOK's number. IllegalArgumentException: WAY, MOVES, or the told number are none; ... there are 3 BOOKS."
    private static void promise13() {
        MoveNotes x = walkers();
        C.wrong("MOVES 0", () -> x.write(0, 0, 0, 0));
        C.same("0", x.write(1, 24, 9, HIGHEST), 0);
        C.wrong("MOVES 25", () -> x.write(0, 25, 0, 0));
        C.same("1", x.write(0, 1, 0, LOWEST), 1);
        C.wrong("told 10", () -> x.write(0, 1, 10, 0));
        C.wrong("told -1", () -> x.write(0, 1, -1, 0));
        C.same("2", x.write(0, 1, 9, -1), 2);
        C.full("3", () -> x.write(0, 1, 0, 0));
        C.wrong("3 of WAY 2", () -> x.write(2, 1, 0, 0));
        C.same("NOTES", x.count(3), 12);
    }

    // "PRICE of a SLIP 1 to 7 from now on: what it was."
    private static void promise14() {
        MoveNotes x = walkers();
        for (int slip = 1; slip <= 7; slip++) {
            for (int n = 0; n <= 9; n++) {
                C.same("SLIP " + slip + " for " + n, x.price(slip, n), n == 0 ? 0 : n - 1);
            }
        }
        for (int slip = 1; slip <= 7; slip++) {
            C.same("each has its own", x.price(slip, slip), 9);
        }
        for (int slip = 1; slip <= 7; slip++) {
            C.same("each its own", x.price(slip, 0), slip);
        }
    }

    // "THE LENGTH (NONE: none). IllegalArgumentException: not NONE to 30."
    private static void promise15() {
        MoveNotes x = walkers();
        for (int n = -1; n <= 30; n++) {
            x.length(n);
            C.same("LENGTH " + n, x.count(5), n);
            C.same("READINGS", x.many(), n == -1 ? 11 : n > 10 ? -1 : 1);
        }
        for (int n : new int[] {-2, 31, LOWEST, HIGHEST}) {
            C.wrong("LENGTH " + n, Checks.of(() -> x.length(n)));
            C.same("as it was", x.count(5), 30);
        }
    }

    // "A PICTURE (kind NONE: nothing): how many there are. IllegalArgumentException: MOVES or the SIDE are none"
    private static void promise16() {
        MoveNotes x = walkers();
        C.wrong("MOVES -1", () -> x.picture(-1, 0, 0, 0));
        C.wrong("MOVES 31", () -> x.picture(31, 0, 0, 0));
        C.wrong("SIDE -1", () -> x.picture(0, 0, 0, -1));
        C.wrong("SIDE 2", () -> x.picture(0, 0, 0, 2));
        C.same("behind 0 MOVES", x.picture(0, 0, 0, 0), 1);
        C.same("it is so", x.many(), 11);
        C.same("behind 10", x.picture(10, 30, 0, 0), 2);
        C.same("one", x.many(), 1);
        C.same("behind 30", x.picture(30, 1, -1, 0), 3);
        C.same("none", x.many(), -1);
        for (int n = 4; n <= 10; n++) {
            C.same("nothing", x.picture(0, 1, -1, n % 2), n);
        }
        C.full("an eleventh", () -> x.picture(0, 1, -1, 0));
        C.same("ten", x.count(4), 10);
    }

    // "How many MOVES FIRST has (i NONE), or its MOVE i (-3 without). IllegalArgumentException: i is below NONE."; NEXT "-3 also
    // without it"
    private static void promise17To20() {
        MoveNotes x = walkers();
        x.picture(4, 12, 0, 0);
        C.same("LEAST", x.least(), 0);
        C.same("MANY", x.many(), 7);
        C.same("FIRST has", x.read(-1), 4);
        C.same("NEXT has", x.readNext(-1), 5);
        for (int i = 0; i <= 6; i++) {
            int due = i % 2 == 0 ? Checks.move(3 * i, 3 * i + 6) : Checks.move(38 - 3 * i, 32 - 3 * i);
            C.same("MOVE " + i + " of FIRST", x.read(i), i < 4 ? due : -3);
            C.same("MOVE " + i + " of NEXT", x.readNext(i), i < 5 ? due : -3);
        }
        for (int i : new int[] {-2, LOWEST}) {
            C.wrong("read " + i, () -> x.read(i));
            C.wrong("readNext " + i, () -> x.readNext(i));
        }
        x.length(4);
        C.same("without NEXT how many", x.readNext(-1), -3);
        C.same("without NEXT its MOVE", x.readNext(0), -3);
    }

    // "SLIP of a NOTE in FIRST."; "How many SLIPS of a number (1 to 7) there are in FIRST, of a BOOK."
    private static void promise21And22() {
        MoveNotes x = walkers();
        x.book(0);
        x.note(0, 0, -1, 0, 1);
        for (int slip : new int[] {0, -1, 8, LOWEST, HIGHEST}) {
            C.noPlace("slips " + slip, () -> x.slips(0, slip));
        }
        for (int note : new int[] {-1, 1, LOWEST, HIGHEST}) {
            C.noPlace("slip of NOTE " + note, () -> x.slip(0, note));
        }
        for (int slip = 1; slip <= 7; slip++) {
            C.same("none", x.slips(0, slip), 0);
        }
        x.price(6, 2);
        x.length(10);
        C.same("nine LOST", x.slips(0, 6), 9);
        C.same("LEAST", x.least(), 18);
        x.book(0);
        x.length(1);
        C.same("of the other BOOK one", x.slips(1, 6), 1);
        C.same("of the first none", x.slips(0, 6), 0);
    }

    // "BREAKS; -3 without."; "-3 without that MOVE. ... i is below 0."; "PLAYED of BEST (i NONE), or its MOVE i"
    private static void promise23To27() {
        MoveNotes x = walkers();
        x.length(2);
        x.book(0);
        x.note(0, 0, -1, 0, 1);
        C.same("BREAKS without", x.breaks(0), -3);
        x.note(0, 0, -1, 3, 3);
        C.same("BREAKS", x.breaks(0), 1);
        x.change(0, 1, 0, -1, 5, 4);
        C.same("BRIEF at the last", x.brief(1), 1);
        C.same("BRIEF without", x.brief(2), -3);
        C.wrong("BRIEF below 0", () -> x.brief(-1));
        C.same("PART, as MANY is 1", x.part(), -3);
        Checks.measure(x, "add 4");
        C.same("PLAYED", x.best(-1), 8);
        C.same("its last MOVE", x.best(1), Checks.move(35, 29));
        C.same("without", x.best(2), -3);
        C.wrong("BEST below NONE", () -> x.best(-2));
        C.same("ODDS above", x.odds(1, 0, false), 1);
        C.same("ODDS below", x.odds(1, 0, true), 1);
        C.same("ODDS without", x.odds(2, 0, true), -3);
        C.wrong("ODDS below 0", () -> x.odds(-1, 0, true));
        C.wrong("WIDTH -1", () -> x.odds(0, -1, true));
        C.wrong("WIDTH 3", () -> x.odds(0, 3, true));
    }

    // "SHARED (copied false), or 1 if COPIED, 0 if not."; "-3, if both are alike"; CHEAPER
    private static void promise28To31() {
        MoveNotes x = walkers();
        x.price(2, 3);
        for (int b = 0; b < 3; b++) {
            x.book(0);
            x.note(b, 0, -1, 1, 1);
            x.note(b, 0, -1, 4, 4);
        }
        x.change(2, 1, 0, -1, 5, 4);
        C.same("SHARED", x.shared(0, 1, false), 2);
        C.same("COPIED is 1", x.shared(0, 1, true), 1);
        C.same("one", x.shared(0, 2, false), 1);
        C.same("COPIED", x.shared(0, 2, true), 1);
        C.same("one is not more than one", x.shared(2, 0, true), 0);
        C.same("ALIKE", x.alike(0, 1), 2);
        C.same("ALIKE but for one", x.alike(0, 2), 1);
        C.same("WAY", x.way(2), 0);
        C.same("LEAST", x.least(), 15);
        C.same("CHEAPER", x.cheaper(2), 10);
        C.same("CHEAPER of 0", x.cheaper(1), 0);
    }

    // "One goes back to THE IMAGE: true; false, and nothing happens, if none was kept."
    private static void promise32And33() {
        MoveNotes x = full();
        String before = seen(x);
        C.isFalse("none", x.back());
        C.text("nothing happens", seen(x), before);
        x.image();
        C.text("nor by keeping it", seen(x), before);
        C.isTrue("there is one", x.back());
        C.text("the same", seen(x), before);
        // All of it otherwise, and back; what was full has no room then.
        MoveNotes y = new MoveNotes();
        y.image();
        String empty = seen(y);
        Checks.kind(y, "straight 1", 5);
        y.put(0, 0, 0);
        y.write(0, 3, 4, 5);
        y.price(6, 1);
        y.length(7);
        y.picture(2, 3, -1, 0);
        Checks.measure(y, "add 5");
        C.isFalse("otherwise", seen(y).equals(empty));
        C.isTrue("back", y.back());
        C.text("as a new object", seen(y), empty);
        C.noPlace("no KIND", Checks.of(() -> y.put(0, 0, 0)));
        x.length(24);
        C.isTrue("back to what was full", x.back());
        C.full("NOTES", () -> x.note(2, 0, -1, 0, 0));
        C.full("BOOKS", () -> x.book(0));
        C.full("PICTURES", () -> x.picture(0, 0, 0, 0));
        Checks.feed(x, "leap");
        C.full("KINDS", () -> x.kind(0));
    }

    // "0 KINDS, 1 men at START, 2 BOOKS, 3 NOTES of all, 4 PICTURES, 5 THE LENGTH (NONE), 6 positions that LEAST lays out (-2 if
    // SPENT), 7 VALUE of all men at START. NONE for another what."
    private static void promise34() {
        MoveNotes x = full();
        // Eight men: two of VALUE 1 that go, six of VALUE 1 that do not. 24 and 30 MOVES: START, 24 by PRICE 0.
        int[] due = {5, 8, 3, 72, 10, -1, 25, 8};
        for (int what = 0; what < due.length; what++) {
            C.same("count(" + what + ")", x.count(what), due[what]);
        }
        for (int what : new int[] {-1, 8, LOWEST, HIGHEST}) {
            C.same("count(" + what + ")", x.count(what), -1);
        }
        x.length(30);
        C.same("THE LENGTH", x.count(5), 30);
        C.same("21 times as many, as there is no READING", x.count(6), 21 * 25);
        MoveNotes y = new MoveNotes();
        Checks.kind(y, "straight 5; slant 5", 20);
        for (int square = 0; square < 36; square++) {
            y.put(square, 0, square / 18);
        }
        C.same("SPENT", y.count(6), -2);
        C.same("720", y.count(7), 720);
        C.same("36", y.count(1), 36);
    }
}
