import java.io.IOException;
import java.lang.reflect.Method;
import java.lang.reflect.Modifier;
import java.net.URL;
import java.net.URLClassLoader;
import java.nio.charset.StandardCharsets;
import java.nio.file.Files;
import java.nio.file.Path;
import java.util.ArrayList;
import java.util.List;
import java.util.Set;
import java.util.TreeSet;
import java.util.regex.Matcher;
import java.util.regex.Pattern;
import java.util.stream.Stream;

/** That README.md says what the class does: its java lines are compiled as they stand, and run. */
final class ReadmeTest {
    private static final Due due = new Due("ReadmeTest");
    private static final Pattern BLOCK = Pattern.compile("```java\n(.*?)```", Pattern.DOTALL);
    private static final Pattern CALL = Pattern.compile("(x\\.\\w+\\(.*\\)); +// (-?\\d+|NONE|BAD|STATE|FULL)(:.*)?");

    private final List<String> calls = new ArrayList<>();
    private final List<Long> wanted = new ArrayList<>();

    public static void main(String[] args) throws Exception {
        String page = Files.readString(Path.of("README.md"), StandardCharsets.UTF_8);
        new ReadmeTest().lines(page);
        everyCall(page);
        everyTest(page);
        due.end();
    }

    private void lines(String page) throws Exception {
        StringBuilder body = new StringBuilder();
        Matcher block = BLOCK.matcher(page);
        while (block.find()) {
            for (String line : block.group(1).split("\n")) {
                body.append(told(line)).append('\n');
            }
        }
        List<?> answers = run("import java.util.List;\npublic final class Page {\n"
                + "public static void run(List<Long> answers) {\n" + body + "}\n}\n");
        due.is("answers", answers.size(), wanted.size());
        due.is("some fifty calls are shown", calls.size() > 50 ? 1 : 0, 1);
        for (int i = 0; i < Math.min(answers.size(), wanted.size()); i++) {
            due.is(calls.get(i), (Long) answers.get(i), wanted.get(i));
        }
    }

    /** A line with an answer behind it keeps what the call answers; any other stands as it is. */
    private String told(String line) {
        Matcher call = CALL.matcher(line);
        if (!call.matches()) {
            due.is("a call without its answer: " + line, line.startsWith("x.") ? 1 : 0, 0);
            return line;
        }
        calls.add(call.group(1));
        wanted.add(number(call.group(2)));
        return "answers.add((long) " + call.group(1) + ");";
    }

    private static long number(String word) {
        switch (word) {
            case "NONE":
                return Due.NONE;
            case "BAD":
                return Due.BAD;
            case "STATE":
                return Due.STATE;
            case "FULL":
                return Due.FULL;
            default:
                return Long.parseLong(word);
        }
    }

    private static List<?> run(String source) throws Exception {
        Path built = Files.createTempDirectory("page");
        try {
            Path file = Files.writeString(built.resolve("Page.java"), source);
            // The javac that .ci/run calls, too: this java need not bring a compiler of its own.
            int failed = new ProcessBuilder("javac", "-cp", System.getProperty("java.class.path"), "-d",
                    built.toString(), file.toString()).inheritIO().start().waitFor();
            due.is("javac of the lines", failed, 0);
            List<Long> answers = new ArrayList<>();
            if (failed == 0) {
                try (URLClassLoader loader = new URLClassLoader(new URL[] {built.toUri().toURL()})) {
                    loader.loadClass("Page").getMethod("run", List.class).invoke(null, answers);
                }
            }
            return answers;
        } finally {
            remove(built);
        }
    }

    private static void remove(Path directory) throws IOException {
        try (Stream<Path> files = Files.list(directory)) {
            for (Path file : files.toList()) {
                Files.delete(file);
            }
        }
        Files.delete(directory);
    }

    private static void everyCall(String page) {
        String lines = BLOCK.matcher(page).results().map(m -> m.group(1)).reduce("", String::concat);
        for (Method m : AsManyAsCame.class.getDeclaredMethods()) {
            if (Modifier.isPublic(m.getModifiers())) {
                due.is("shown: " + m, lines.contains("x." + m.getName() + "(") ? 1 : 0, 1);
                due.is("in the table: " + m, inTable(page, m) ? 1 : 0, 1);
            }
        }
    }

    private static boolean inTable(String page, Method m) {
        Matcher told = Pattern.compile("(?m)^\\|.*`" + m.getName() + "\\(([^)]*)\\)`").matcher(page);
        if (!told.find()) {
            return false;
        }
        String parameters = told.group(1);
        return (parameters.isEmpty() ? 0 : parameters.split(", ").length) == m.getParameterCount();
    }

    private static void everyTest(String page) throws IOException {
        Set<String> there = new TreeSet<>();
        try (Stream<Path> files = Files.list(Path.of("src/test/java"))) {
            files.map(f -> f.getFileName().toString()).filter(f -> f.matches("\\w+(Test|Edges)\\.java"))
                    .map(f -> f.replace(".java", "")).filter(f -> !f.equals("Edges")).forEach(there::add);
        }
        Set<String> named = new TreeSet<>();
        Matcher test = Pattern.compile("`(\\w+(Test|Edges))`").matcher(page.substring(page.indexOf("| test |")));
        while (test.find()) {
            named.add(test.group(1));
        }
        due.is("tests there " + there + ", named " + named, there.equals(named) ? 1 : 0, 1);
    }
}
