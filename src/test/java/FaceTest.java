import java.io.IOException;
import java.lang.reflect.Constructor;
import java.lang.reflect.Field;
import java.lang.reflect.Method;
import java.lang.reflect.Modifier;
import java.nio.charset.StandardCharsets;
import java.nio.file.Files;
import java.nio.file.Path;
import java.util.ArrayList;
import java.util.Arrays;
import java.util.List;
import java.util.TreeSet;
import java.util.regex.Matcher;
import java.util.regex.Pattern;

/** 'The public face' of the document, and what of LANGUAGE.md can be seen from the class and from its text. */
public final class FaceTest {
    private static final String FACE = """
        int byteAt(int, int)
        int count(int)
        int did(int, int)
        int end(int)
        int entries(int, int) throws IllegalStateException
        int entry(int, int, int, int) throws IndexOutOfBoundsException, IllegalStateException
        int fault(int)
        int homeless()
        int lay(int, int, int) throws IllegalStateException, IllegalArgumentException, IndexOutOfBoundsException
        int out(int, int)
        int packet(int) throws IllegalStateException, IllegalArgumentException
        int read() throws IllegalArgumentException
        int run(int) throws IllegalStateException, IllegalArgumentException
        int size(int)
        int stage(int, int)
        int step(int, int)
        long word(int, int) throws IllegalStateException
        void datum(int, long) throws IndexOutOfBoundsException
        void feed(int, int, int, int, int)
        void key(int, long, long) throws IndexOutOfBoundsException
        """;
    private static final String[] NEVER = {
        "try", "catch", "finally", "synchronized", "assert", "native", "volatile", "transient", "import static",
        "System.out", "System.err", "System.currentTimeMillis", "System.nanoTime", "Random", "Thread", "->", "::",
        "static {", "protected", "getClass", "hashCode", "toString", "package ", "double", "float"
    };

    public static void main(String[] args) throws IOException {
        face();
        inside();
        String text = plain(Files.readString(Path.of("src/main/java/PacketWorks.java"), StandardCharsets.ISO_8859_1));
        library(text);
        for (String word : NEVER) {
            boolean isName = Character.isLetter(word.charAt(0)) && Character.isLetter(word.charAt(word.length() - 1));
            String wanted = isName ? "\\b" + Pattern.quote(word) + "\\b" : Pattern.quote(word);
            Works.due(word + " stands in the class", Pattern.compile(wanted).matcher(text).find() ? 1 : 0, 0);
        }
        lengths(text);
        Works.done();
    }

    private static void face() {
        Works.sentence("The public face");
        Works.due("public final", PacketWorks.class.getModifiers(), Modifier.PUBLIC | Modifier.FINAL);
        Works.due("NONE", PacketWorks.NONE, -1);
        TreeSet<String> got = new TreeSet<>();
        for (Method method : PacketWorks.class.getDeclaredMethods()) {
            if (!method.isSynthetic() && !Modifier.isPrivate(method.getModifiers())) {
                Works.due(method + " is public", method.getModifiers(), Modifier.PUBLIC);
                got.add(faceOf(method));
            }
        }
        TreeSet<String> want = new TreeSet<>(Arrays.asList(FACE.strip().split("\n")));
        Works.due("the methods are " + got + ", due are " + want + ": alike", got.equals(want) ? 1 : 0, 1);
        Constructor<?>[] constructors = PacketWorks.class.getDeclaredConstructors();
        Works.due("constructors", constructors.length, 1);
        Works.due("it is public", constructors[0].getModifiers(), Modifier.PUBLIC);
        Works.due("its parameters", constructors[0].getParameterCount(), 0);
        for (Field field : PacketWorks.class.getDeclaredFields()) {
            boolean isPrivate = Modifier.isPrivate(field.getModifiers());
            Works.due(field + " is private, or NONE", isPrivate != field.getName().equals("NONE") ? 1 : 0, 1);
        }
    }

    private static String faceOf(Method method) {
        List<String> parameters = new ArrayList<>();
        for (Class<?> parameter : method.getParameterTypes()) {
            parameters.add(parameter.getSimpleName());
        }
        List<String> thrown = new ArrayList<>();
        for (Class<?> exception : method.getExceptionTypes()) {
            thrown.add(exception.getSimpleName());
        }
        String head = method.getReturnType() + " " + method.getName() + "(" + String.join(", ", parameters) + ")";
        return thrown.isEmpty() ? head : head + " throws " + String.join(", ", thrown);
    }

    private static void inside() {
        Works.sentence("LANGUAGE.md 1, 5 and 11: names, static fields, parameters, classes, fields");
        TreeSet<String> open = new TreeSet<>();
        for (Method method : PacketWorks.class.getMethods()) {
            open.add(method.getName());
        }
        List<Class<?>> all = new ArrayList<>(Arrays.asList(PacketWorks.class.getDeclaredClasses()));
        all.add(PacketWorks.class);
        Works.due("at most twelve classes", all.size() <= 12 ? 1 : 0, 1);
        for (Class<?> one : all) {
            boolean outer = one == PacketWorks.class;
            Works.due(one + " is static", outer || Modifier.isStatic(one.getModifiers()) ? 1 : 0, 1);
            Works.due(one + " is not public", outer || !Modifier.isPublic(one.getModifiers()) ? 1 : 0, 1);
            int fields = 0;
            for (Field field : one.getDeclaredFields()) {
                boolean isStatic = Modifier.isStatic(field.getModifiers());
                fields += isStatic ? 0 : 1;
                Works.due(field + " is final", !isStatic || Modifier.isFinal(field.getModifiers()) ? 1 : 0, 1);
            }
            Works.due(one + " has at most twenty fields", fields <= 20 ? 1 : 0, 1);
            for (Method method : one.getDeclaredMethods()) {
                Works.due(method + " has at most seven parameters", method.getParameterCount() <= 7 ? 1 : 0, 1);
                boolean hides = !(outer && Modifier.isPublic(method.getModifiers())) && open.contains(method.getName());
                Works.due(method + " bears the name of a public one", hides ? 1 : 0, 0);
            }
        }
    }

    /** The text without comments, and without what stands in texts and characters. */
    private static String plain(String text) {
        String bare = text.replaceAll("(?s)/\\*.*?\\*/", "").replaceAll("//[^\n]*", "");
        return bare.replaceAll("\"[^\"\n]*\"", "\"\"").replaceAll("'[^'\n]*'", "' '");
    }

    private static void library(String text) {
        Works.sentence("LANGUAGE.md 4 and 6: the library, and what is thrown");
        Matcher imported = Pattern.compile("import ([^;]*);").matcher(text);
        while (imported.find()) {
            Works.due("import of " + imported.group(1), imported.group(1).equals("java.util.Arrays") ? 1 : 0, 1);
        }
        Matcher used = Pattern.compile("\\b(Arrays|System|Math|Integer|Long)\\.(\\w+)").matcher(text);
        List<String> may = List.of("Arrays.fill", "System.arraycopy", "Math.max", "Math.min", "Long.bitCount");
        while (used.find()) {
            boolean imports = text.startsWith("java.util.", used.start() - 10);
            Works.due("use of " + used.group(), imports || may.contains(used.group()) ? 1 : 0, 1);
        }
        Matcher thrown = Pattern.compile("throw\\b([^;]*);").matcher(text);
        while (thrown.find()) {
            boolean plain = thrown.group(1).matches(" new (IllegalState|IllegalArgument|IndexOutOfBounds)Exception\\(\"\"\\)");
            Works.due("throw" + thrown.group(1), plain ? 1 : 0, 1);
        }
    }

    private static void lengths(String text) {
        Works.sentence("LANGUAGE.md 11: methods stay short");
        String[] lines = text.split("\n");
        for (int i = 0; i < lines.length; i++) {
            Matcher head = Pattern.compile("( {4}| {8})(\\w.*\\(.*\\).*)\\{").matcher(lines[i]);
            if (!head.matches()) {
                continue;
            }
            int end = i;
            while (end < lines.length && !lines[end].equals(head.group(1) + "}")) {
                end++;
            }
            Works.due(head.group(2) + "has " + (end - i) + " lines, at most 60", end - i <= 60 ? 1 : 0, 1);
        }
    }
}
