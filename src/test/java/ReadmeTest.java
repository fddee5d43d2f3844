import java.lang.reflect.Method;
import java.lang.reflect.Modifier;
import java.net.URL;
import java.net.URLClassLoader;
import java.nio.file.Files;
import java.nio.file.Path;
import java.util.ArrayList;
import java.util.Comparator;
import java.util.List;
import java.util.Set;
import java.util.TreeSet;
import java.util.regex.Matcher;
import java.util.regex.Pattern;
import java.util.stream.Stream;
import javax.tools.JavaCompiler;
import javax.tools.ToolProvider;

/**
 * README.md's parts of Java, compiled and run as one program, in which each call is asked for the
 * answer that stands behind it. So what README.md shows cannot come to differ from the class.
 */
public final class ReadmeTest {
    private static final Due DUE = new Due("ReadmeTest");
    private static final Pattern SHOWN =
        Pattern.compile("(\\s*)(x\\.(\\w+)\\(.*\\));\\s*// (?:(-?\\d+)|(UNKNOWN|OUTSIDE|STATE|FULL|NONE|LOST)): .*");

    private final Set<String> shown = new TreeSet<>();
    private final List<String> program = new ArrayList<>();

    public static void main(String[] args) throws Exception {
        String text = Files.readString(Path.of("README.md"));
        ReadmeTest test = new ReadmeTest();
        test.read(text.lines().toList());
        test.runProgram();
        test.showsAllCalls();
        namesAllTests(text);
        DUE.end();
    }

    private void read(List<String> lines) {
        boolean inJava = false;
        for (int k = 0; k < lines.size(); k++) {
            String line = lines.get(k);
            if (line.startsWith("```")) inJava = line.equals("```java");
            else if (inJava) program.add(asked(line, k + 1));
        }
    }

    /** A line with a call becomes one that keeps the call's answer and the one that is told. */
    private String asked(String line, int number) {
        if (!line.contains("x.")) return line;
        Matcher m = SHOWN.matcher(line);
        boolean told = m.matches();
        DUE.holds("README.md tells the answer in line " + number + ": " + line, told);
        if (!told) return "";
        shown.add(m.group(3));
        String answer = m.group(4) != null ? m.group(4) + "L" : "LaneWaits." + m.group(5);
        String name = "line " + number + ", " + m.group(2).replace("\"", "'");
        return m.group(1) + "seen.add(new Object[] {\"" + name + "\", (long) " + m.group(2) + ", (long) " + answer + "});";
    }

    private void runProgram() throws Exception {
        Path room = Files.createTempDirectory("readme");
        try {
            List<Object[]> seen = new ArrayList<>();
            if (isCompiled(room)) {
                try (URLClassLoader loader = new URLClassLoader(new URL[] {room.toUri().toURL()})) {
                    loader.loadClass("Shown").getMethod("run", List.class).invoke(null, seen);
                }
            }
            DUE.holds("README.md shows calls", !seen.isEmpty());
            DUE.holds("README.md's object is used for at most 512 calls, not " + seen.size(), seen.size() <= 512);
            for (Object[] row : seen) DUE.is("README.md " + row[0], (Long) row[1], (Long) row[2]);
        } finally {
            try (Stream<Path> files = Files.walk(room)) {
                for (Path file : files.sorted(Comparator.reverseOrder()).toList()) Files.delete(file);
            }
        }
    }

    private boolean isCompiled(Path room) throws Exception {
        List<String> lines = new ArrayList<>();
        lines.add("public final class Shown {");
        lines.add("public static void run(java.util.List<Object[]> seen) {");
        lines.addAll(program);
        lines.add("} }");
        Path source = room.resolve("Shown.java");
        Files.write(source, lines);
        JavaCompiler compiler = ToolProvider.getSystemJavaCompiler();
        int exit = compiler.run(null, null, null, "-cp", System.getProperty("java.class.path"),
            "-d", room.toString(), source.toString());
        DUE.is("README.md's parts of Java are compiled", exit, 0);
        return exit == 0;
    }

    private void showsAllCalls() {
        for (Method m : LaneWaits.class.getDeclaredMethods()) {
            if (Modifier.isPublic(m.getModifiers())) DUE.holds("README.md shows " + m.getName(), shown.contains(m.getName()));
        }
    }

    private static void namesAllTests(String text) throws Exception {
        Set<String> named = new TreeSet<>();
        Matcher m = Pattern.compile("`(\\w+Test)`").matcher(text);
        while (m.find()) named.add(m.group(1));
        Set<String> there = new TreeSet<>();
        try (Stream<Path> files = Files.list(Path.of("src/test/java"))) {
            for (Path file : files.toList()) {
                String name = file.getFileName().toString();
                if (name.endsWith("Test.java")) there.add(name.substring(0, name.length() - 5));
            }
        }
        DUE.holds("README.md names the tests " + there + ", not " + named, named.equals(there));
        DUE.holds("README.md says how to run them", text.contains("\n    .ci/run\n") && Files.isExecutable(Path.of(".ci/run")));
    }
}
