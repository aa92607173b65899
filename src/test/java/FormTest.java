import java.io.DataInputStream;
import java.io.IOException;
import java.io.InputStream;
import java.util.ArrayList;
import java.util.LinkedHashSet;
import java.util.List;
import java.util.Map;
import java.util.Set;
import java.util.TreeMap;
import java.util.TreeSet;

/**
 * What LANGUAGE.md asks of the form, read out of the compiled classes: what is called, how deep calls go, and that rows are
 * touched, and numbers divided, just where a test stands ahead of it.
 */
public final class FormTest {
    private static final Checks C = new Checks("FormTest");
    private static final int DEEPEST = 8;
    private static final Set<String> LIBRARY = Set.of("java/lang/Object.<init>()V", "java/lang/Math.min(II)I",
            "java/lang/Math.max(II)I", "java/lang/Long.bitCount(J)I", "java/lang/String.charAt(I)C",
            "java/lang/String.length()I", "java/util/Arrays.fill([II)V",
            "java/lang/System.arraycopy(Ljava/lang/Object;ILjava/lang/Object;II)V",
            "java/lang/IndexOutOfBoundsException.<init>(Ljava/lang/String;)V",
            "java/lang/IllegalArgumentException.<init>(Ljava/lang/String;)V",
            "java/lang/UnsupportedOperationException.<init>(Ljava/lang/String;)V",
            "java/util/NoSuchElementException.<init>(Ljava/lang/String;)V");
    /** Methods that use an index behind a test of their own; all others go through at and set. */
    private static final Set<String> TOUCH_ROWS = Set.of("MoveNotes.at", "MoveNotes.set", "MoveNotes$Board.reachBy",
            "MoveNotes.<clinit>");
    /** Methods that divide by what is no constant, behind a test of it. */
    private static final Set<String> DIVIDE = Set.of("MoveNotes.odds", "MoveNotes.commonPart", "MoveNotes$Writer.fill",
            "MoveNotes$Prices.hopeful");

    /** A compiled class: the texts that its instructions name, and its methods. */
    private static final class Compiled {
        final String name;
        final Map<String, byte[]> codes = new TreeMap<>();
        final Map<String, Integer> caught = new TreeMap<>();
        private final Object[] pool;

        Compiled(String file) throws IOException {
            try (InputStream raw = FormTest.class.getResourceAsStream("/" + file + ".class");
                    DataInputStream in = new DataInputStream(raw)) {
                in.skipNBytes(8);
                pool = poolOf(in);
                in.readUnsignedShort();
                name = text(in.readUnsignedShort());
                in.readUnsignedShort();
                in.skipNBytes(2L * in.readUnsignedShort());
                members(in, false);
                members(in, true);
            }
        }

        private static Object[] poolOf(DataInputStream in) throws IOException {
            Object[] pool = new Object[in.readUnsignedShort()];
            for (int i = 1; i < pool.length; i++) {
                int tag = in.readUnsignedByte();
                switch (tag) {
                    case 1 -> pool[i] = in.readUTF();
                    case 3, 4 -> in.readInt();
                    case 5, 6 -> {
                        in.readLong();
                        i++;
                    }
                    case 7, 8, 16, 19, 20 -> pool[i] = new int[] {in.readUnsignedShort()};
                    case 15 -> in.skipNBytes(3);
                    default -> pool[i] = new int[] {in.readUnsignedShort(), in.readUnsignedShort()};
                }
            }
            return pool;
        }

        /** The text behind a place of the pool: of a class its name, of a method class, name and types. */
        String text(int i) {
            if (pool[i] instanceof String s) {
                return s;
            }
            int[] parts = (int[]) pool[i];
            if (parts.length == 1) {
                return text(parts[0]);
            }
            int[] both = (int[]) pool[parts[1]];
            return text(parts[0]) + "." + text(both[0]) + text(both[1]);
        }

        private void members(DataInputStream in, boolean areMethods) throws IOException {
            int count = in.readUnsignedShort();
            for (int n = 0; n < count; n++) {
                in.readUnsignedShort();
                String member = name + "." + text(in.readUnsignedShort()) + text(in.readUnsignedShort());
                int attributes = in.readUnsignedShort();
                for (int a = 0; a < attributes; a++) {
                    String attribute = text(in.readUnsignedShort());
                    byte[] body = in.readNBytes(in.readInt());
                    if (areMethods && attribute.equals("Code")) {
                        int size = (int) word(body, 4);
                        codes.put(member, java.util.Arrays.copyOfRange(body, 8, 8 + size));
                        caught.put(member, half(body, 8 + size));
                    }
                }
            }
        }
    }

    private static int half(byte[] b, int i) {
        return (b[i] & 255) << 8 | b[i + 1] & 255;
    }

    private static long word(byte[] b, int i) {
        return (long) half(b, i) << 16 | half(b, i + 2);
    }

    private static int lengthOf(byte[] b, int i) {
        int op = b[i] & 255;
        int aligned = i + 4 - i % 4;
        if (op == 170) {
            return aligned - i + 12 + 4 * (int) (word(b, aligned + 8) - word(b, aligned + 4) + 1);
        }
        if (op == 171) {
            return aligned - i + 8 + 8 * (int) word(b, aligned + 4);
        }
        if (op == 196) {
            return (b[i + 1] & 255) == 132 ? 6 : 4;
        }
        if (op == 185 || op == 186 || op == 200 || op == 201) {
            return 5;
        }
        if (op == 197) {
            return 4;
        }
        boolean isThree = op == 17 || op == 19 || op == 20 || op == 132 || op >= 153 && op <= 168 || op >= 178 && op <= 184
                || op == 187 || op == 189 || op == 192 || op == 193 || op == 198 || op == 199;
        boolean isTwo = op == 16 || op == 18 || op >= 21 && op <= 25 || op >= 54 && op <= 58 || op == 169 || op == 188;
        return isThree ? 3 : isTwo ? 2 : 1;
    }

    private static final Map<String, Set<String>> CALLS = new TreeMap<>();
    private static final Set<String> OUTSIDE = new TreeSet<>();
    private static List<String> deepest = List.of();

    public static void main(String[] args) throws IOException {
        List<Compiled> classes = new ArrayList<>();
        classes.add(new Compiled("MoveNotes"));
        for (Class<?> c : MoveNotes.class.getDeclaredClasses()) {
            classes.add(new Compiled(c.getName()));
        }
        for (Compiled c : classes) {
            for (Map.Entry<String, byte[]> method : c.codes.entrySet()) {
                read(c, method.getKey(), method.getValue());
            }
        }
        OUTSIDE.removeAll(LIBRARY);
        C.text("calls of the library that are none of rule 4", OUTSIDE.toString(), "[]");
        for (String method : CALLS.keySet()) {
            follow(method, new LinkedHashSet<>());
        }
        C.isTrue("the walk found the search's depth", deepest.size() >= 6);
        C.isTrue("calls go at most eight deep: " + deepest, deepest.size() <= DEEPEST);
        C.isTrue("all methods were read", CALLS.size() > 150);
        C.end();
    }

    /** Looks at each instruction of a method. */
    private static void read(Compiled c, String method, byte[] code) {
        Set<String> called = CALLS.computeIfAbsent(method, m -> new TreeSet<>());
        String plain = method.substring(0, method.indexOf('('));
        C.same(method + " catches nothing", c.caught.get(method), 0);
        boolean isConstant = false;
        List<String> faults = new ArrayList<>();
        for (int i = 0; i < code.length; i += lengthOf(code, i)) {
            int op = code[i] & 255;
            if (op >= 182 && op <= 185) {
                String target = c.text(half(code, i + 1));
                (target.startsWith("MoveNotes") ? called : OUTSIDE).add(target);
            }
            if ((op >= 46 && op <= 53 || op >= 79 && op <= 86) && !TOUCH_ROWS.contains(plain)) {
                faults.add("touches a row");
            }
            if ((op == 108 || op == 109 || op == 112 || op == 113) && !isConstant && !DIVIDE.contains(plain)) {
                faults.add("divides by what is no constant");
            }
            if (op == 192 || op == 186 || op == 194 || op == 195) {
                faults.add("casts, locks or has a lambda");
            }
            if (op == 191 && plain.endsWith("<init>")) {
                faults.add("throws in a constructor");
            }
            isConstant = op >= 4 && op <= 8 || op == 16 || op == 17;
        }
        C.text(method, faults.toString(), "[]");
    }

    /** Goes down from a method by all ways that come to no method twice. */
    private static void follow(String method, Set<String> open) {
        if (!CALLS.containsKey(method) || !open.add(method)) {
            return;
        }
        if (open.size() > deepest.size()) {
            deepest = new ArrayList<>(open);
        }
        for (String next : CALLS.get(method)) {
            follow(next, open);
        }
        open.remove(method);
    }
}
