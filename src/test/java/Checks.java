/** Counts checks, tells the ones that fail, and makes what the tests need again and again. */
final class Checks {
    /** A call that may throw. */
    interface Call {
        long answer();
    }

    /** A call without an answer. */
    interface Deed {
        void run();
    }

    private final String name;
    private int passed;
    private int failed;

    Checks(String name) {
        this.name = name;
    }

    void same(String what, long got, long due) {
        if (got == due) {
            passed++;
            return;
        }
        failed++;
        if (failed <= 50) {
            System.out.println(name + ": " + what + " answered " + got + ", due is " + due);
        }
    }

    void isTrue(String what, boolean got) {
        same(what, got ? 1 : 0, 1);
    }

    void isFalse(String what, boolean got) {
        same(what, got ? 1 : 0, 0);
    }

    void text(String what, String got, String due) {
        if (!got.equals(due)) {
            System.out.println(name + ": " + what + " answered " + got + ", due is " + due);
            failed++;
        } else {
            passed++;
        }
    }

    void noPlace(String what, Call call) {
        text(what, outcome(call), "IndexOutOfBoundsException");
    }

    void wrong(String what, Call call) {
        text(what, outcome(call), "IllegalArgumentException");
    }

    void full(String what, Call call) {
        text(what, outcome(call), "UnsupportedOperationException");
    }

    /** What a call answers, or the simple name of what it throws. */
    static String outcome(Call call) {
        try {
            return Long.toString(call.answer());
        } catch (RuntimeException e) {
            return e.getClass().getSimpleName();
        }
    }

    static Call of(Deed deed) {
        return () -> {
            deed.run();
            return 0;
        };
    }

    void end() {
        System.out.println(name + ": " + passed + " checks hold, " + failed + " do not");
        System.exit(failed == 0 ? 0 : 1);
    }

    // ---- what the tests need ----

    static void feed(MoveNotes x, String text) {
        for (int i = 0; i < text.length(); i += 20) {
            int[] five = new int[5];
            for (int j = 0; j < 20; j++) {
                int b = i + j < text.length() ? text.charAt(i + j) : 0;
                five[j / 4] |= b << 24 - j % 4 * 8;
            }
            x.feed(five[0], five[1], five[2], five[3], five[4]);
        }
        x.end(text.length());
    }

    static int kind(MoveNotes x, String text, int value) {
        feed(x, text);
        return x.kind(value);
    }

    static int measure(MoveNotes x, String text) {
        feed(x, text);
        return x.measure();
    }

    /** THE FACE of a text of a KIND or MEASURE: where it is wrong; NONE, if it is right. */
    static int faultOfKind(String text) {
        MoveNotes x = new MoveNotes();
        feed(x, text);
        String end = outcome(() -> x.kind(0));
        return end.equals("0") == (x.fault() == -1) ? x.fault() : -99;
    }

    static int faultOfMeasure(String text) {
        MoveNotes x = new MoveNotes();
        feed(x, text);
        String end = outcome(() -> x.measure());
        return end.equals("IllegalArgumentException") == (x.fault() != -1) ? x.fault() : -99;
    }

    static int move(int from, int to) {
        return 36 * from + to;
    }

    /** A SQUARE by its FILE and RANK. */
    static int square(int file, int rank) {
        return 6 * rank + file;
    }
}
