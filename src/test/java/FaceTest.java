import java.io.IOException;
import java.lang.reflect.Constructor;
import java.lang.reflect.Field;
import java.lang.reflect.Method;
import java.lang.reflect.Modifier;
import java.nio.file.Files;
import java.nio.file.Path;
import java.util.ArrayList;
import java.util.Arrays;
import java.util.List;
import java.util.Set;
import java.util.TreeSet;
import java.util.regex.Matcher;
import java.util.regex.Pattern;

/** The public face is the document's and no more, and the source keeps to what LANGUAGE.md lets be counted. */
public final class FaceTest {
    private static final Checks C = new Checks("FaceTest");
    private static final String[] FACE = {
        "int feed(int, int, int, int, int)",
        "boolean end(int)",
        "int kind(int) throws IllegalArgumentException, UnsupportedOperationException",
        "int measure() throws IllegalArgumentException",
        "int fault()",
        "void put(int, int, int) throws IndexOutOfBoundsException, IllegalArgumentException",
        "int moves(int, int) throws IllegalArgumentException",
        "int book(int) throws IllegalArgumentException, UnsupportedOperationException",
        "int note(int, int, int, int, int) throws IndexOutOfBoundsException, IllegalArgumentException, "
            + "UnsupportedOperationException",
        "boolean change(int, int, int, int, int, int) throws IndexOutOfBoundsException, IllegalArgumentException",
        "int look(int, int, int) throws IndexOutOfBoundsException, NoSuchElementException",
        "int write(int, int, int, int) throws IllegalArgumentException, UnsupportedOperationException",
        "int price(int, int) throws IndexOutOfBoundsException, IllegalArgumentException",
        "void length(int) throws IllegalArgumentException",
        "int picture(int, int, int, int) throws IndexOutOfBoundsException, IllegalArgumentException, "
            + "UnsupportedOperationException",
        "int least()",
        "int many()",
        "int read(int) throws IllegalArgumentException",
        "int readNext(int) throws IllegalArgumentException",
        "int slip(int, int) throws IndexOutOfBoundsException",
        "int slips(int, int) throws IndexOutOfBoundsException",
        "int breaks(int) throws IndexOutOfBoundsException",
        "int brief(int) throws IllegalArgumentException",
        "int part()",
        "int best(int) throws IllegalArgumentException",
        "long odds(int, int, boolean) throws IllegalArgumentException",
        "int shared(int, int, boolean) throws IndexOutOfBoundsException",
        "int alike(int, int) throws IndexOutOfBoundsException",
        "int way(int) throws IndexOutOfBoundsException",
        "int cheaper(int) throws IndexOutOfBoundsException",
        "void image()",
        "boolean back()",
        "int count(int)"
    };

    public static void main(String[] args) throws IOException {
        methods();
        others();
        namesOfPrivates(MoveNotes.class, publicNames());
        source();
        C.end();
    }

    private static void methods() {
        List<String> due = new ArrayList<>(Arrays.asList(FACE));
        for (Method m : MoveNotes.class.getDeclaredMethods()) {
            if (Modifier.isPrivate(m.getModifiers()) || m.isSynthetic()) {
                continue;
            }
            StringBuilder s = new StringBuilder(m.getReturnType().getSimpleName()).append(' ').append(m.getName());
            s.append(Arrays.stream(m.getParameterTypes()).map(Class::getSimpleName).toList().toString()
                    .replace('[', '(').replace(']', ')'));
            List<String> thrown = Arrays.stream(m.getExceptionTypes()).map(Class::getSimpleName).toList();
            if (!thrown.isEmpty()) {
                s.append(" throws ").append(String.join(", ", thrown));
            }
            C.isTrue("the document has " + s, due.remove(s.toString()));
            C.isTrue(s + " is public", Modifier.isPublic(m.getModifiers()));
        }
        C.text("what is missing", due.toString(), "[]");
    }

    private static void others() {
        C.isTrue("public", Modifier.isPublic(MoveNotes.class.getModifiers()));
        C.isTrue("final", Modifier.isFinal(MoveNotes.class.getModifiers()));
        for (Field f : MoveNotes.class.getDeclaredFields()) {
            C.isTrue("field " + f.getName(), Modifier.isPrivate(f.getModifiers()) != f.getName().equals("NONE"));
            C.isTrue("static and so final: " + f.getName(),
                    !Modifier.isStatic(f.getModifiers()) || Modifier.isFinal(f.getModifiers()));
        }
        Constructor<?>[] made = MoveNotes.class.getDeclaredConstructors();
        C.same("constructors", made.length, 1);
        C.same("without parameters", made[0].getParameterCount(), 0);
        C.same("classes of the file, some twelve", MoveNotes.class.getDeclaredClasses().length + 1 <= 13 ? 1 : 0, 1);
        for (Class<?> c : MoveNotes.class.getDeclaredClasses()) {
            C.isTrue(c + " is static", Modifier.isStatic(c.getModifiers()));
            C.isFalse(c + " is public", Modifier.isPublic(c.getModifiers()));
            long fields = Arrays.stream(c.getDeclaredFields()).filter(f -> !Modifier.isStatic(f.getModifiers())).count();
            C.same(c + " has some twenty fields at most", fields <= 20 ? 20 : fields, 20);
            namesOfPrivates(c, publicNames());
        }
    }

    private static Set<String> publicNames() {
        Set<String> names = new TreeSet<>();
        for (String f : FACE) {
            names.add(f.substring(f.indexOf(' ') + 1, f.indexOf('(')));
        }
        return names;
    }

    private static void namesOfPrivates(Class<?> c, Set<String> names) {
        for (Method m : c.getDeclaredMethods()) {
            boolean isOfFace = c == MoveNotes.class && Modifier.isPublic(m.getModifiers());
            C.isTrue(c.getSimpleName() + "." + m.getName() + " bears no public name", isOfFace || !names.contains(m.getName()));
            C.isTrue(m.getName() + " has seven parameters at most", m.getParameterCount() <= 7);
        }
    }

    private static void source() throws IOException {
        String source = Files.readString(Path.of("src/main/java/MoveNotes.java"));
        C.isTrue("signs 1 to 127", source.chars().allMatch(c -> c > 0 && c < 128));
        String code = source.replaceAll("(?s)/\\*.*?\\*/", "").replaceAll("//.*", "").replaceAll("\"[^\"\n]*\"", "\"\"");
        for (String word : new String[] {"finally", "synchronized", "assert", "->", "::", "goto", "catch", "try", "var",
            "float", "double", "volatile", "transient", "native", "protected", "Object", "toString", "hashCode",
            "currentTimeMillis", "nanoTime", "random", "Random", "Thread", "instanceof", "while (true)", "for (;;)"}) {
            String pattern = Character.isLetter(word.charAt(0)) ? "\\b" + Pattern.quote(word) + "(?!\\w)" : Pattern.quote(word);
            C.isFalse("the source has '" + word + "'", Pattern.compile(pattern).matcher(code).find());
        }
        Set<String> imports = new TreeSet<>();
        Matcher m = Pattern.compile("(?m)^import (.*);$").matcher(code);
        while (m.find()) {
            imports.add(m.group(1));
        }
        C.text("imports", imports.toString(), "[java.util.Arrays, java.util.NoSuchElementException]");
        methodsAreShort(source);
    }

    private static void methodsAreShort(String source) {
        int begin = -1;
        String[] lines = source.split("\n");
        for (int i = 0; i < lines.length; i++) {
            if (lines[i].matches(" {4}( {4})?[a-z].*\\) *(throws .*)?\\{") || lines[i].matches(" {12}throws .*\\{")) {
                begin = i;
            }
            if (begin >= 0 && lines[i].matches(" {4}( {4})?\\}")) {
                C.isTrue("some sixty lines at most from " + (begin + 1), i - begin < 60);
                begin = -1;
            }
        }
    }
}
