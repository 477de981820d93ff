import java.io.IOException;
import java.lang.reflect.Method;
import java.lang.reflect.Modifier;
import java.net.URL;
import java.net.URLClassLoader;
import java.nio.file.Files;
import java.nio.file.Path;
import java.util.ArrayList;
import java.util.List;
import java.util.Map;
import java.util.Set;
import java.util.TreeSet;
import java.util.regex.Matcher;
import java.util.regex.Pattern;
import java.util.stream.Collectors;
import java.util.stream.Stream;
import javax.tools.ToolProvider;

/** What README.md shows: its java blocks are compiled as they stand, and each call answers what stands behind it. */
public final class ReadmeTest {
    private static final Pattern CALL = Pattern.compile("(x\\.(\\w+)\\(.*\\));\\s+// (-?[0-9]+)(:.*)?");

    public static void main(String[] args) throws ReflectiveOperationException, IOException {
        List<String> shown = javaBlocks(Files.readAllLines(Path.of("README.md")));
        Set<String> names = new TreeSet<>();
        StringBuilder body = new StringBuilder();
        int bare = 0;
        for (String line : shown) {
            Matcher call = CALL.matcher(line);
            if (call.matches()) {
                names.add(call.group(2));
                String quoted = call.group(1).replace("\\", "\\\\").replace("\"", "\\\"");
                body.append("seen.put(seen.size() + \": ").append(quoted).append("\", new int[] {")
                    .append(call.group(1)).append(", ").append(call.group(3)).append("});\n");
            } else {
                bare += line.contains("x.") ? 1 : 0;
                body.append(line).append('\n');
            }
        }
        Due.due("only the loop that feeds tells no answer: calls without one", bare, 1);
        Due.holds("all of the face is shown, not only " + names, names.equals(face()));
        answers(body.toString()).forEach((call, both) -> Due.due("README.md, call " + call, both[0], both[1]));
        Due.close("ReadmeTest");
    }

    private static List<String> javaBlocks(List<String> lines) {
        List<String> blocks = new ArrayList<>();
        boolean inside = false;
        for (String line : lines) {
            if (line.startsWith("```")) {
                inside = line.equals("```java");
            } else if (inside) {
                blocks.add(line);
            }
        }
        return blocks;
    }

    private static Set<String> face() {
        Set<String> names = new TreeSet<>();
        for (Method m : TestChoice.class.getDeclaredMethods()) {
            if (Modifier.isPublic(m.getModifiers())) {
                names.add(m.getName());
            }
        }
        return names;
    }

    /** By each call that is shown: what it answers, what the file says. */
    @SuppressWarnings("unchecked")
    private static Map<String, int[]> answers(String body) throws ReflectiveOperationException, IOException {
        Path room = Files.createTempDirectory("readme");
        try {
            Path source = room.resolve("Shown.java");
            Files.writeString(source, "import java.util.*;\npublic final class Shown {\n"
                + "public static Map<String, int[]> all() {\nMap<String, int[]> seen = new LinkedHashMap<>();\n"
                + body + "return seen;\n}\n}\n");
            int code = ToolProvider.getSystemJavaCompiler().run(null, null, null, "-encoding", "UTF-8",
                "-cp", System.getProperty("java.class.path"), "-d", room.toString(), source.toString());
            Due.due("README.md compiles: javac's code", code, 0);
            if (code != 0) {
                return Map.of();
            }
            try (URLClassLoader loader = new URLClassLoader(new URL[] {room.toUri().toURL()})) {
                return (Map<String, int[]>) loader.loadClass("Shown").getMethod("all").invoke(null);
            }
        } finally {
            remove(room);
        }
    }

    private static void remove(Path room) throws IOException {
        try (Stream<Path> files = Files.list(room)) {
            for (Path file : files.collect(Collectors.toList())) {
                Files.delete(file);
            }
        }
        Files.delete(room);
    }
}
