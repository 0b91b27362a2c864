import java.io.IOException;
import java.lang.reflect.Constructor;
import java.lang.reflect.Executable;
import java.lang.reflect.Field;
import java.lang.reflect.Method;
import java.lang.reflect.Modifier;
import java.nio.file.Files;
import java.nio.file.Path;
import java.util.ArrayList;
import java.util.Arrays;
import java.util.HashSet;
import java.util.List;
import java.util.Set;
import java.util.TreeSet;

/** The face is the document's and no more; and the rules of LANGUAGE.md that can be seen without reading. */
public final class FaceTest {
    private static final Set<String> THROWN = Set.of("IllegalStateException", "IllegalArgumentException",
            "IndexOutOfBoundsException", "ArithmeticException", "UnsupportedOperationException",
            "NoSuchElementException", "RuntimeException");

    public static void main(String[] args) throws IOException {
        same("the face", faceOfClass(), faceOfDocument());
        Checks.due("the class is public and final", ApartBench.class.getModifiers(), Modifier.PUBLIC | Modifier.FINAL);
        membersAreHidden();
        methodsAreSmall();
        wordsOfTheSource();
        roomOfARun();
        Checks.finish("FaceTest");
    }

    private static void same(String what, Set<String> got, Set<String> want) {
        Set<String> more = new TreeSet<>(got);
        more.removeAll(want);
        Set<String> fewer = new TreeSet<>(want);
        fewer.removeAll(got);
        Checks.due(what + " more: " + more + " fewer: " + fewer, more.size() + fewer.size(), 0);
    }

    private static Set<String> faceOfDocument() throws IOException {
        Set<String> face = new TreeSet<>();
        for (String line : Files.readAllLines(Path.of("../shared/DOC.md"))) {
            if (line.startsWith("    public ") && line.endsWith(";")) {
                face.add(line.replaceAll("^ *public |static |final |;$|= .*$", "").replaceAll("(int|boolean) [a-zA-Z]+(?=[,)])", "$1")
                        .trim());
            }
        }
        return face;
    }

    private static Set<String> faceOfClass() {
        Set<String> face = new TreeSet<>();
        for (Constructor<?> c : ApartBench.class.getConstructors()) {
            face.add("ApartBench" + arguments(c));
        }
        for (Method m : ApartBench.class.getDeclaredMethods()) {
            if (Modifier.isPublic(m.getModifiers())) {
                face.add(m.getReturnType().getSimpleName() + " " + m.getName() + arguments(m));
            }
        }
        for (Field f : ApartBench.class.getFields()) {
            face.add(f.getType().getSimpleName() + " " + f.getName());
        }
        return face;
    }

    private static String arguments(Executable e) {
        List<String> types = new ArrayList<>();
        for (Class<?> type : e.getParameterTypes()) {
            types.add(type.getSimpleName());
        }
        List<String> thrown = new ArrayList<>();
        for (Class<?> type : e.getExceptionTypes()) {
            thrown.add(type.getSimpleName());
        }
        return "(" + String.join(", ", types) + ")" + (thrown.isEmpty() ? "" : " throws " + String.join(", ", thrown));
    }

    private static void membersAreHidden() {
        Set<String> open = new HashSet<>();
        for (Method m : ApartBench.class.getDeclaredMethods()) {
            if (Modifier.isPublic(m.getModifiers())) {
                open.add(m.getName());
            } else if (!m.isSynthetic()) {
                Checks.due(m.getName() + " is private", one(Modifier.isPrivate(m.getModifiers())), 1);
            }
        }
        for (Field f : ApartBench.class.getDeclaredFields()) {
            Checks.due(f.getName() + " is private or the document's",
                    one(Modifier.isPrivate(f.getModifiers()) || f.getName().equals("NONE")), 1);
        }
        int classes = 1;
        for (Class<?> inside : ApartBench.class.getDeclaredClasses()) {
            classes++;
            Checks.due(inside + " is static", one(Modifier.isStatic(inside.getModifiers())), 1);
            for (Method m : inside.getDeclaredMethods()) {
                Checks.due(m + " bears no name of the face", one(open.contains(m.getName())), 0);
            }
            long fields = Arrays.stream(inside.getDeclaredFields())
                    .filter(f -> !(Modifier.isStatic(f.getModifiers()) && Modifier.isFinal(f.getModifiers()))).count();
            Checks.due(inside + " has at most 20 fields", one(fields <= 20), 1);
        }
        for (Method m : ApartBench.class.getDeclaredMethods()) {
            Checks.due(m + " bears no name of the face", one(Modifier.isPrivate(m.getModifiers())
                    && open.contains(m.getName())), 0);
        }
        Checks.due("at most twelve classes", one(classes <= 12), 1);
    }

    private static void methodsAreSmall() throws IOException {
        List<String> lines = Files.readAllLines(Path.of("src/main/java/ApartBench.java"));
        int begin = -1;
        for (int i = 0; i < lines.size(); i++) {
            String line = lines.get(i);
            Checks.due("line " + (i + 1) + " is not too long", one(line.length() <= 130), 1);
            if (line.matches(" {4}( {4})?[a-zA-Z].*\\(.*\\{$") && !line.contains(" class ")) {
                begin = i;
            } else if (begin >= 0 && line.matches(" {4}( {4})?}") && line.indexOf('}') <= lines.get(begin).indexOf(
                    lines.get(begin).trim())) {
                Checks.due("the method of line " + (begin + 1) + " is short", one(i - begin <= 60), 1);
                begin = -1;
            }
        }
    }

    private static void wordsOfTheSource() throws IOException {
        String source = Files.readString(Path.of("src/main/java/ApartBench.java"));
        String code = source.replaceAll("(?s)/\\*.*?\\*/", "").replaceAll("//[^\n]*", "");
        String[] unwanted = {"->", "::", "synchronized", "assert ", "finally", "import java.io", "Random", "System.out",
            "currentTimeMillis", "nanoTime", "Exact(", "try ", "catch ", "static {", "package "};
        for (String word : unwanted) {
            Checks.due("no " + word, one(code.contains(word)), 0);
        }
        java.util.regex.Matcher thrown = java.util.regex.Pattern.compile("throw new ([A-Za-z]+)\\(").matcher(code);
        while (thrown.find()) {
            Checks.due("throws " + thrown.group(1), one(THROWN.contains(thrown.group(1))), 1);
        }
        for (char c : source.toCharArray()) {
            if (c > 126) {
                Checks.due("a plain sign", c, 126);
            }
        }
    }

    /** No call but season() makes anything, and that one object: the machine's own count tells. */
    private static void roomOfARun() {
        com.sun.management.ThreadMXBean bean =
                (com.sun.management.ThreadMXBean) java.lang.management.ManagementFactory.getThreadMXBean();
        ApartBench x = Checks.told("town inn;town;town;road 0 1 2;road 1 2 1;judge 0 5 0 1 2;judge 4 3 2 1;wise 2 7 1 0;"
                + "case 0 6 2 7 1 5;law proof-harsh<5 or said=2;");
        long before = 0;
        for (int round = 0; round < 20; round++) {
            before = round == 10 ? bean.getCurrentThreadAllocatedBytes() : before;
            x.start(0, round);
            x.word(0, 1, round);
            x.flood(0, round, 3);
            x.feast(0, round, round);
            for (int what = 0; what < 2; what++) {
                x.burn(what);
                x.when(0, what);
                x.free(0, what);
                x.sent(0, what);
                x.game(0, what);
                x.season(round, 40, what);
                x.guilty(0, what);
            }
            x.image();
            x.round(0);
            x.mercy(0);
            x.deaf(0);
            x.undo();
            x.restore();
        }
        long bytes = bean.getCurrentThreadAllocatedBytes() - before;
        Checks.due("at most 64 bytes for a round's calls, but " + bytes / 10, one(bytes / 10 <= 64), 1);
    }

    private static int one(boolean b) {
        return b ? 1 : 0;
    }
}
