import java.lang.reflect.InvocationTargetException;
import java.lang.reflect.Method;
import java.nio.charset.StandardCharsets;
import java.nio.file.Files;
import java.nio.file.Path;
import java.util.List;

/** What README.md shows: its program and each call of its example, with the answer that stands beside it. */
public final class ReadmeTest {
    private static final String ARROW = "->";
    private static int calls;
    private static int answers;

    public static void main(String[] args) throws Exception {
        List<String> lines = Files.readAllLines(Path.of("README.md"), StandardCharsets.ISO_8859_1);
        String program = block(lines, "```text program");
        String example = block(lines, "```text calls");
        Works.sentence("README.md's example");
        PacketWorks x = new PacketWorks();
        for (String line : example.split("\n")) {
            if (!line.isBlank()) {
                hold(x, line.trim(), program);
            }
        }
        Works.due("README.md shows calls", calls >= 20 ? 1 : 0, 1);
        Works.due("README.md shows answers", answers >= 15 ? 1 : 0, 1);
        namesAllTests(lines);
        Works.done();
    }

    private static String block(List<String> lines, String opening) {
        int from = lines.indexOf(opening);
        Works.due("README.md has " + opening, from >= 0 ? 1 : 0, 1);
        StringBuilder s = new StringBuilder();
        for (int i = from + 1; from >= 0 && i < lines.size() && !lines.get(i).equals("```"); i++) {
            s.append(lines.get(i)).append('\n');
        }
        return s.toString();
    }

    /** A line is a call, perhaps with what it answers or throws behind the arrow. */
    private static void hold(PacketWorks x, String line, String program) throws Exception {
        int arrow = line.indexOf(ARROW);
        String call = arrow < 0 ? line : line.substring(0, arrow).trim();
        String want = arrow < 0 ? "" : line.substring(arrow + ARROW.length()).trim();
        if (call.startsWith("tape ")) {
            String text = call.substring(5);
            Works.due(call, Works.put(x, text.equals("the program") ? program : text), Long.decode(want));
            return;
        }
        calls++;
        int open = call.indexOf('(');
        Method method = methodOf(call.substring(0, open));
        Object[] values = valuesOf(method, call.substring(open + 1, call.length() - 1).trim());
        String got;
        try {
            Object answer = method.invoke(x, values);
            got = answer == null ? "" : answer.toString();
        } catch (InvocationTargetException e) {
            got = "throws " + e.getCause().getClass().getSimpleName();
        }
        answers += want.isEmpty() ? 0 : 1;
        Works.due(call + " answered '" + got + "', README.md says '" + want + "': alike", got.equals(want) ? 1 : 0, 1);
    }

    private static Method methodOf(String name) {
        for (Method method : PacketWorks.class.getMethods()) {
            if (method.getName().equals(name)) {
                return method;
            }
        }
        throw new IllegalArgumentException("README.md has a call that is none: " + name);
    }

    private static Object[] valuesOf(Method method, String list) {
        String[] parts = list.isEmpty() ? new String[0] : list.split(",");
        Object[] values = new Object[parts.length];
        for (int i = 0; i < parts.length; i++) {
            long value = Long.decode(parts[i].trim());
            boolean isLong = method.getParameterTypes()[i] == long.class;
            values[i] = isLong ? (Object) value : (Object) (int) value;
        }
        return values;
    }

    private static void namesAllTests(List<String> lines) throws Exception {
        String all = String.join("\n", lines);
        try (var files = Files.list(Path.of("src/test/java"))) {
            for (Path file : files.toList()) {
                String name = file.getFileName().toString().replace(".java", "");
                Works.due("README.md names " + name, all.contains("`" + name + "`") ? 1 : 0, 1);
            }
        }
    }
}
