import java.io.IOException;
import java.io.InputStream;
import java.nio.charset.StandardCharsets;
import java.nio.file.Files;
import java.nio.file.Path;
import java.util.ArrayList;
import java.util.Arrays;
import java.util.Comparator;
import java.util.List;
import java.util.Set;
import java.util.TreeSet;
import java.util.regex.Matcher;
import java.util.regex.Pattern;
import java.util.stream.Stream;

/**
 * That README.md holds: its programs, compiled and run by the commands that it gives, answer what stands behind their
 * calls; and it names every test and every call there is.
 */
public final class ReadmeTest extends Checks {
    private static final String CLASS_FILE = "src/main/java/CircleOfLeaves.java";
    private static final String EXAMPLE = "Example";

    public static void main(String[] args) throws Exception {
        String page = Files.readString(Path.of("README.md"), StandardCharsets.UTF_8);
        List<String> programs = blocks(page, "java");
        is("programs", programs.size(), 2);
        Path folder = Files.createTempDirectory("readme");
        try {
            Files.createDirectories(folder.resolve(CLASS_FILE).getParent());
            Files.copy(Path.of(CLASS_FILE), folder.resolve(CLASS_FILE));
            for (String program : programs) {
                answersAsWritten(folder, program, commands(page));
            }
        } finally {
            remove(folder);
        }
        namesEveryTest(page);
        namesEveryCall(page);
        end();
    }

    private static List<String> blocks(String page, String kind) {
        List<String> all = new ArrayList<>();
        Matcher matcher = Pattern.compile("(?ms)^```(\\w*)\\n(.*?)^```$").matcher(page);
        while (matcher.find()) {
            if (matcher.group(1).equals(kind)) {
                all.add(matcher.group(2));
            }
        }
        return all;
    }

    /** The lines that compile and run the example. */
    private static List<String> commands(String page) {
        for (String block : blocks(page, "")) {
            if (block.contains(EXAMPLE)) {
                return List.of(block.split("\n"));
            }
        }
        throw new Error("README.md does not say how to compile the example");
    }

    private static void answersAsWritten(Path folder, String program, List<String> commands) throws Exception {
        Matcher name = Pattern.compile("public final class (\\w+)").matcher(program);
        if (!name.find()) {
            throw new Error("a program without a class");
        }
        Files.writeString(folder.resolve(name.group(1) + ".java"), program);
        List<String> due = new ArrayList<>();
        Matcher shown = Pattern.compile("(?m)^ {8}show\\((.*)\\); *// (\\w+)").matcher(program);
        while (shown.find()) {
            due.add(shown.group(1) + " " + shown.group(2));
        }
        String printed = "";
        for (String command : commands) {
            printed = run(folder, command.replace(EXAMPLE, name.group(1)));
        }
        String[] lines = printed.split("\n");
        is("lines of " + name.group(1), lines.length, due.size());
        for (int i = 0; i < lines.length && i < due.size(); i++) {
            String call = due.get(i).substring(0, due.get(i).lastIndexOf(' '));
            is("README.md, " + name.group(1), call + " " + lines[i], due.get(i));
        }
    }

    private static String run(Path folder, String command) throws IOException, InterruptedException {
        List<String> words = Arrays.asList(command.split(" "));
        is("a program of Java's kit: " + command, words.get(0).matches("javac?"), true);
        Process process = new ProcessBuilder(words).directory(folder.toFile())
                .redirectError(ProcessBuilder.Redirect.INHERIT).start();
        String printed;
        try (InputStream stream = process.getInputStream()) {
            printed = new String(stream.readAllBytes(), StandardCharsets.UTF_8);
        }
        is(command, process.waitFor(), 0);
        return printed;
    }

    private static void namesEveryTest(String page) throws IOException {
        Set<String> named = new TreeSet<>();
        Matcher matcher = Pattern.compile("src/test/java/(\\w+)\\.java").matcher(page);
        while (matcher.find()) {
            named.add(matcher.group(1));
        }
        try (Stream<Path> files = Files.list(Path.of("src/test/java"))) {
            Set<String> there = new TreeSet<>();
            for (Path file : (Iterable<Path>) files::iterator) {
                String name = file.getFileName().toString().replace(".java", "");
                if (name.endsWith("Test")) {
                    there.add(name);
                } else {
                    is("what the tests share: " + name, page.contains("`" + name + "`"), true);
                }
            }
            is("the tests that README.md names", named, there);
        }
    }

    private static void namesEveryCall(String page) {
        for (String name : Calls.NAMES) {
            is("a call in one of the groups: " + name, page.matches("(?s).*[:,]\\s+`" + name + "`[,;.].*"), true);
        }
    }

    private static void remove(Path folder) throws IOException {
        List<Path> all = new ArrayList<>();
        try (Stream<Path> files = Files.walk(folder)) {
            files.sorted(Comparator.reverseOrder()).forEach(all::add);
        }
        for (Path file : all) {
            Files.delete(file);
        }
    }
}
