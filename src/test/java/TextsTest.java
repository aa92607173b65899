/** Promises 1 to 6: a new object, the TAPE, the two sorts of texts, and where they are wrong. */
public final class TextsTest {
    private static final Checks C = new Checks("TextsTest");

    public static void main(String[] args) {
        promise1();
        promise2();
        promise3();
        promise4();
        promise4Faults();
        promise5();
        promise5Faults();
        promise6();
        C.end();
    }

    private static void promise1() {
        MoveNotes x = new MoveNotes();
        for (int what = 0; what <= 4; what++) {
            C.same("new: count(" + what + ")", x.count(what), 0);
        }
        C.same("new: count(5)", x.count(5), -1);
        C.same("new: count(6)", x.count(6), 1);
        C.same("new: count(7)", x.count(7), 0);
        C.same("new: moves(0, NONE)", x.moves(0, -1), 0);
        C.same("new: moves(1, NONE)", x.moves(1, -1), 0);
        C.same("new: least()", x.least(), 0);
        C.same("new: many()", x.many(), 1);
        C.same("new: read(NONE)", x.read(-1), 0);
        C.same("new: best(NONE)", x.best(-1), 0);
        C.same("new: fault()", x.fault(), -1);
        C.isFalse("new: back()", x.back());
        C.isTrue("new: end(0)", x.end(0));
        C.isFalse("new: end(1)", x.end(1));
        for (int slip = 1; slip <= 7; slip++) {
            C.same("new: price of " + slip, x.price(slip, 1), 0);
        }
        C.same("NONE", MoveNotes.NONE, -1);
        // Two objects know nothing of each other.
        Checks.kind(x, "leap", 3);
        C.same("another's count(0)", new MoveNotes().count(0), 0);
    }

    private static void promise2() {
        MoveNotes x = new MoveNotes();
        for (int n = 1; n <= 20; n++) {
            C.same("feed number " + n, x.feed(0x20202020, 0x20202020, 0x20202020, 0x20202020, 0x20202020), 20 * n);
        }
        C.same("a feed too many", x.feed(1, 1, 1, 1, 1), -1);
        C.isFalse("none of it came", x.end(401));
        C.isTrue("all else is there", x.end(400));
        C.same("400 blanks are a text without a LINE", x.kind(0), 0);
        // 381 to 399: the twenty would not all fit.
        fill(x);
        x.end(381);
        C.same("a feed at 381", x.feed(0, 0, 0, 0, 0), -1);
        C.isFalse("still 381", x.end(382));
        x.end(380);
        C.same("a feed at 380", x.feed(0, 0, 0, 0, 0), 400);
        // Of each number the highest byte first, the numbers in their order: "straight 1 ;ahead 22".
        MoveNotes y = new MoveNotes();
        y.feed(0x73747261, 0x69676874, 0x2031203b, 0x61686561, 0x64203232);
        y.end(19);
        C.same("the bytes in their order", y.kind(0), 0);
        y.put(square(0, 0), 0, 0);
        C.same("straight 1; ahead 2", y.moves(0, -1), 3);
        // Bytes from 128 on are bytes too.
        C.same("a byte 255 is the wrong byte", faultOf(new int[] {0x6c656170, 0xff000000, 0, 0, 0}, 5), 4);
        C.same("a byte 128", faultOf(new int[] {0x80000000, 0, 0, 0, 0}, 1), 0);
        // More comes behind what is there.
        MoveNotes z = new MoveNotes();
        z.feed(0x6c650000, 0, 0, 0, 0);
        z.end(2);
        C.same("behind two bytes", z.feed(0x61700000, 0, 0, 0, 0), 22);
        z.end(4);
        C.same("le and ap", z.kind(0), 0);
    }

    private static void fill(MoveNotes x) {
        for (int n = 0; n < 20; n++) {
            x.feed(0x20202020, 0x20202020, 0x20202020, 0x20202020, 0x20202020);
        }
    }

    private static int faultOf(int[] five, int size) {
        MoveNotes x = new MoveNotes();
        x.feed(five[0], five[1], five[2], five[3], five[4]);
        x.end(size);
        Checks.outcome(() -> x.kind(0));
        return x.fault();
    }

    private static void promise3() {
        MoveNotes x = new MoveNotes();
        x.feed(0x6c656170, 0x3b6c6561, 0x70000000, 0, 0);
        C.isFalse("end(-1)", x.end(-1));
        C.isFalse("end(lowest)", x.end(Integer.MIN_VALUE));
        C.isFalse("end(21)", x.end(21));
        C.isTrue("end(20)", x.end(20));
        C.isTrue("end(9)", x.end(9));
        C.isFalse("end(10) behind it", x.end(10));
        C.isTrue("end(9) again", x.end(9));
        C.same("leap;leap", x.kind(0), 0);
        C.isFalse("the TAPE is used up", x.end(1));
        C.isTrue("but for nothing", x.end(0));
    }

    private static void promise4() {
        MoveNotes x = new MoveNotes();
        C.same("no LINE", Checks.kind(x, "", 0), 0);
        C.same("blanks alone", Checks.kind(x, "   ", 20), 1);
        C.same("all sorts", Checks.kind(x, " straight 5 ;slant1;  ahead 3; leap ;bite ", 7), 2);
        C.same("six LINES", Checks.kind(x, "leap;leap;leap;leap;leap;leap", 1), 3);
        Checks.feed(x, "leap");
        C.wrong("VALUE 21", () -> x.kind(21));
        C.isFalse("the TAPE is used up by it", x.end(1));
        C.same("its text was right", x.fault(), -1);
        Checks.feed(x, "leap");
        C.wrong("VALUE -1", () -> x.kind(-1));
        Checks.feed(x, "hop");
        C.wrong("a wrong text", () -> x.kind(1));
        C.isFalse("the TAPE is used up by it too", x.end(1));
        C.same("nothing else came of it", x.count(0), 4);
        C.same("the fifth", Checks.kind(x, "bite", 20), 4);
        Checks.feed(x, "leap");
        C.full("the sixth", () -> x.kind(1));
        C.isFalse("the TAPE is used up by it as well", x.end(1));
        C.same("the text was read", x.fault(), -1);
        Checks.feed(x, "leap 1");
        C.wrong("a wrong text comes first", () -> x.kind(1));
        C.same("and is told", x.fault(), 5);
        Checks.feed(x, "leap");
        C.wrong("a wrong VALUE comes first", () -> x.kind(21));
        C.same("five", x.count(0), 5);
        // The VALUES are kept.
        x.put(0, 2, 0);
        x.put(1, 4, 1);
        x.put(2, 0, 1);
        C.same("VALUES", x.count(7), 27);
    }

    private static void promise4Faults() {
        fault("", -1);
        fault("straight 1", -1);
        fault("straight1;slant2;ahead3", -1);
        fault("   bite   ;   leap   ", -1);
        fault("straight", 8);
        fault("straight   ", 11);
        fault("straight 0", 9);
        fault("straight 6", 9);
        fault("straight 10", 9);
        fault("straight 1000", 9);
        fault("straight 1 2", 11);
        fault("straight one", 9);
        fault("straight;", 8);
        fault("slant 5;ahead 6", 14);
        fault("ahead", 5);
        fault("leap 1", 5);
        fault("bite 1", 5);
        fault("leapbite", 0);
        fault("leap bite", 5);
        fault("lea", 0);
        fault("leaps", 0);
        fault("Leap", 0);
        fault("  hop", 2);
        fault("leap;", 5);
        fault("leap; ", 6);
        fault("leap;;leap", 5);
        fault(";leap", 0);
        fault("leap;hop;jump", 5);
        fault("leap,bite", 4);
        fault("leap\tbite", 4);
        fault("5", 0);
        fault("add 1", 0);
        fault("leap;add", 5);
        fault("took 1", 0);
        fault("leap;leap;leap;leap;leap;leap", -1);
        fault("leap;leap;leap;leap;leap;leap;", 30);
        fault("leap;leap;leap;leap;leap;leap;  bite", 32);
        fault("leap;leap;leap;leap;leap;leap;hop", 30);
        fault("leap;leap;leap;leap;leap;leap leap", 30);
    }

    private static void fault(String text, int due) {
        C.same("where '" + text + "' is wrong", Checks.faultOfKind(text), due);
    }

    private static void promise5() {
        MoveNotes x = new MoveNotes();
        C.same("no LINE", Checks.measure(x, ""), 0);
        C.same("blanks", Checks.measure(x, "     "), 0);
        C.same("one", Checks.measure(x, "add 0"), 1);
        C.same("ten", Checks.measure(x, "add 1;add 1;add 1;add 1;add 1;add 1;add 1;add 1;add 1;add 1"), 10);
        C.isFalse("the TAPE is used up", x.end(1));
        Checks.feed(x, "add");
        C.wrong("a wrong text", () -> x.measure());
        C.isFalse("the TAPE is used up by it", x.end(1));
        // One KIND that walks: READING of one MOVE, PLAYED tells which MEASURE there is.
        Checks.kind(x, "straight 1", 9);
        x.put(0, 0, 0);
        x.length(1);
        C.same("the MEASURE of ten LINES is still there", x.best(-1), 10);
        C.same("another in its place", Checks.measure(x, "add 7"), 1);
        C.same("counts alone", x.best(-1), 7);
        Checks.feed(x, "add 8 if");
        C.wrong("a wrong one", () -> x.measure());
        C.same("does not take its place", x.best(-1), 7);
        C.same("a text without a LINE does", Checks.measure(x, " "), 0);
        C.same("PLAYED is 0 then", x.best(-1), 0);
    }

    private static void promise5Faults() {
        faultOfMeasure("add 1", -1);
        faultOfMeasure("add999*took if takes;add 000 * value if not safe", -1);
        faultOfMeasure("add1*men if(number<5)or takes and safe", -1);
        faultOfMeasure("add 1 if 1+2+took>value+men+7", -1);
        faultOfMeasure("add 1 if 000 < 999", -1);
        faultOfMeasure("add", 3);
        faultOfMeasure("add  ", 5);
        faultOfMeasure("ad 1", 0);
        faultOfMeasure("leap", 0);
        faultOfMeasure("1", 0);
        faultOfMeasure("add took", 4);
        faultOfMeasure("add 1000", 4);
        faultOfMeasure("add 0001", 4);
        faultOfMeasure("add -1", 4);
        faultOfMeasure("add 1 1", 6);
        faultOfMeasure("add 1 *", 7);
        faultOfMeasure("add 1 * 2", 8);
        faultOfMeasure("add 1 * takes", 8);
        faultOfMeasure("add 1 * took * men", 13);
        faultOfMeasure("add 1 * took + men", 13);
        faultOfMeasure("add 1 + 1", 6);
        faultOfMeasure("add 1 if", 8);
        faultOfMeasure("add 1 if if", 9);
        faultOfMeasure("add 1 if ;", 9);
        faultOfMeasure("add 1 if took", 13);
        faultOfMeasure("add 1 if took ;", 14);
        faultOfMeasure("add 1 if took and safe", 14);
        faultOfMeasure("add 1 if took <", 15);
        faultOfMeasure("add 1 if took < <", 16);
        faultOfMeasure("add 1 if took < men < 3", 20);
        faultOfMeasure("add 1 if took < men + ", 22);
        faultOfMeasure("add 1 if took < 1000", 16);
        faultOfMeasure("add 1 if took * 2 < 3", 14);
        faultOfMeasure("add 1 if took + takes", 16);
        faultOfMeasure("add 1 if took = 2", 14);
        faultOfMeasure("add 1 if takes takes", 15);
        faultOfMeasure("add 1 if takes not safe", 15);
        faultOfMeasure("add 1 if takes < 3", 15);
        faultOfMeasure("add 1 if takes and", 18);
        faultOfMeasure("add 1 if takes or or", 18);
        faultOfMeasure("add 1 if and takes", 9);
        faultOfMeasure("add 1 if not", 12);
        faultOfMeasure("add 1 if not and safe", 13);
        faultOfMeasure("add 1 if (", 10);
        faultOfMeasure("add 1 if ()", 10);
        faultOfMeasure("add 1 if (takes", 15);
        faultOfMeasure("add 1 if (takes ;", 16);
        faultOfMeasure("add 1 if (took) < 3", 14);
        faultOfMeasure("add 1 if (takes))", 16);
        faultOfMeasure("add 1 if takes)", 14);
        faultOfMeasure("add 1 if not not not not not not safe", -1);
        faultOfMeasure("add 1 if not not not not not not not safe", 33);
        faultOfMeasure("add 1 if ((((((safe))))))", -1);
        faultOfMeasure("add 1 if (((((((safe)))))))", 15);
        faultOfMeasure("add 1 if not(not(not(safe)))", -1);
        faultOfMeasure("add 1 if not(not(not(not safe)))", 21);
        faultOfMeasure("add 1 if not(not(not((safe))))", 21);
        // What has been closed, or negated, is no longer around what follows.
        faultOfMeasure("add 1 if not not not not not not safe and not not not not not not takes", -1);
        faultOfMeasure("add 1 if (not safe) or ((((((takes))))))", -1);
        faultOfMeasure("add 1 if (not not not not not safe and not not not not not takes)", -1);
        faultOfMeasure("add 1 if (not not not not not safe and not not not not not not takes)", 59);
        faultOfMeasure("add 1;", 6);
        faultOfMeasure("add 1;;", 6);
        faultOfMeasure("add 1; add", 10);
        faultOfMeasure("add 1; if", 7);
        faultOfMeasure("add 1 if takes; add 2 if (safe", 30);
        String ten = "add 1;add 1;add 1;add 1;add 1;add 1;add 1;add 1;add 1;add 1";
        faultOfMeasure(ten, -1);
        faultOfMeasure(ten + ";", 60);
        faultOfMeasure(ten + ";  ", 62);
        faultOfMeasure(ten + "; add 1", 61);
        faultOfMeasure(ten + ";ad", 60);
        faultOfMeasure("add 1 if\u00e9", 8);
        faultOfMeasure("add 1\n", 5);
        faultOfMeasure("add 1 if \0", 9);
        // As long as a text can be: 400 bytes.
        StringBuilder longest = new StringBuilder("add 1 if 0<1");
        while (longest.length() < 400) {
            longest.append("+1");
        }
        faultOfMeasure(longest.toString(), -1);
        longest.setCharAt(398, ' ');
        faultOfMeasure(longest.toString(), 399);
        longest.setCharAt(399, ' ');
        longest.setCharAt(398, '+');
        faultOfMeasure(longest.toString(), 400);
    }

    private static void faultOfMeasure(String text, int due) {
        C.same("where '" + text + "' is wrong", Checks.faultOfMeasure(text), due);
    }

    private static void promise6() {
        MoveNotes x = new MoveNotes();
        C.same("ahead of any", x.fault(), -1);
        Checks.feed(x, "leap 3");
        C.same("what is only fed is not read", x.fault(), -1);
        C.wrong("leap 3", () -> x.kind(0));
        C.same("leap 3 is wrong", x.fault(), 5);
        Checks.feed(x, "add 1 if");
        C.same("until the next is read", x.fault(), 5);
        C.wrong("add 1 if", () -> x.measure());
        C.same("add 1 if is wrong", x.fault(), 8);
        C.wrong("kind(21) of nothing", () -> x.kind(21));
        C.same("a right text with a wrong VALUE", x.fault(), -1);
        Checks.feed(x, "add 1 if");
        Checks.outcome(() -> x.measure());
        C.same("a right MEASURE", Checks.measure(x, "add 1"), 1);
        C.same("has none", x.fault(), -1);
        // THE IMAGE knows nothing of it.
        Checks.feed(x, "hop");
        Checks.outcome(() -> x.kind(1));
        x.image();
        Checks.kind(x, "leap", 1);
        C.isTrue("back()", x.back());
        C.same("fault() stays as it is", x.fault(), -1);
    }

    private static int square(int file, int rank) {
        return Checks.square(file, rank);
    }
}
