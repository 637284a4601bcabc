import java.io.File;
import java.io.IOException;
import java.net.URL;
import java.net.URLClassLoader;
import java.nio.file.Files;
import java.nio.file.Path;
import java.util.ArrayList;
import java.util.Comparator;
import java.util.List;
import java.util.regex.Matcher;
import java.util.regex.Pattern;
import java.util.stream.Collectors;
import java.util.stream.Stream;
import javax.tools.JavaCompiler;
import javax.tools.ToolProvider;

/** What README.md says: its code compiles and answers as written, and it names each call and each test. */
public final class ReadmeTest {
    private static final Dues D = new Dues();
    private static final Pattern BLOCK = Pattern.compile("```java\n(.*?)```", Pattern.DOTALL);
    private static final Pattern ANSWERED = Pattern.compile("(?m)^(voice\\.\\w+\\(.*\\)); *// (true|false|-?\\d+)\\b.*$");
    private static final Pattern CALLED = Pattern.compile("(?m)^voice\\.");
    private static final Pattern PROMISE = Pattern.compile("(?m)^## Promise (\\d+): .*\n\n`(?:\\w+ )?(\\w+)\\((.*?)\\)`");

    public static void main(String[] args) throws Exception {
        String readme = Files.readString(Path.of("README.md"));
        examples(readme);
        calls(readme, Files.readString(Path.of("../shared/DOC.md")));
        tests(readme);
        D.end();
    }

    /** A block with a method of its own is a member of the example; the others are what it does, one behind the other. */
    private static void examples(String readme) throws Exception {
        StringBuilder members = new StringBuilder();
        StringBuilder doing = new StringBuilder();
        for (Matcher m = BLOCK.matcher(readme); m.find();) {
            (m.group(1).startsWith("static ") ? members : doing).append(m.group(1));
        }
        List<String> shown = new ArrayList<>();
        List<String> due = new ArrayList<>();
        for (Matcher m = ANSWERED.matcher(doing); m.find();) {
            shown.add(m.group(1));
            due.add(m.group(2));
        }
        D.due("calls of README.md with an answer", due.size(), CALLED.matcher(doing).results().count());
        D.due("README.md shows calls", due.size() > 20, true);
        String program = "public final class Shown {\n" + members
            + "public static void run(java.util.List<String> got) {\n"
            + ANSWERED.matcher(doing).replaceAll("got.add(String.valueOf($1));") + "}\n}\n";
        List<String> got = ran(program);
        for (int i = 0; i < due.size(); i++) {
            D.due("README.md: " + shown.get(i) + " // " + due.get(i) + ", and not " + got.get(i), got.get(i).equals(due.get(i)), true);
        }
    }

    private static List<String> ran(String program) throws Exception {
        Path dir = Files.createTempDirectory("shown");
        List<String> got = new ArrayList<>();
        try {
            Path file = Files.writeString(dir.resolve("Shown.java"), program);
            JavaCompiler javac = ToolProvider.getSystemJavaCompiler();
            int failed = javac.run(null, null, null, "-cp", System.getProperty("java.class.path"), "-d", dir.toString(), file.toString());
            D.due("README.md's code compiles", failed, 0);
            try (URLClassLoader loader = new URLClassLoader(new URL[] {dir.toUri().toURL()})) {
                loader.loadClass("Shown").getMethod("run", List.class).invoke(null, got);
            }
        } finally {
            remove(dir);
        }
        return got;
    }

    private static void remove(Path dir) throws IOException {
        try (Stream<Path> files = Files.walk(dir)) {
            files.sorted(Comparator.reverseOrder()).map(Path::toFile).forEach(File::delete);
        }
    }

    /** Each promise of the document has its row, with the call's arguments by their names. */
    private static void calls(String readme, String document) {
        int promises = 0;
        for (Matcher m = PROMISE.matcher(document); m.find();) {
            promises++;
            String names = Stream.of(m.group(3).split(", *")).map(a -> a.substring(a.indexOf(' ') + 1)).collect(Collectors.joining(", "));
            String row = "| " + m.group(1) + " | `" + m.group(2) + "(" + names + ")` | ";
            D.due("README.md has the row " + row, readme.contains("\n" + row), true);
        }
        D.due("promises of the document", promises, 45);
    }

    private static void tests(String readme) {
        for (String file : new File("src/test/java").list()) {
            if (file.endsWith("Test.java")) {
                String row = "| " + file.substring(0, file.length() - 5) + " | ";
                D.due("README.md has the row " + row, readme.contains("\n" + row), true);
            }
        }
    }
}
