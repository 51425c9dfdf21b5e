import java.io.ByteArrayOutputStream;
import java.io.IOException;
import java.io.PrintStream;
import java.net.URL;
import java.net.URLClassLoader;
import java.nio.charset.StandardCharsets;
import java.nio.file.Files;
import java.nio.file.Path;
import java.util.ArrayList;
import java.util.Comparator;
import java.util.List;
import java.util.TreeSet;
import java.util.regex.Matcher;
import java.util.regex.Pattern;
import java.util.stream.Stream;
import javax.tools.ToolProvider;

/** README.md holds as it is written: its program prints what it says, its commands work, its tests are there. */
public final class ReadmeTest {
    private static final Path README = Path.of("README.md");
    private static final Path TESTS = Path.of("src/test/java");
    private static final String EXAMPLE = "Example.java";
    private static final Pattern PRINTED = Pattern.compile("System\\.out\\.println\\(.*\\); *// ([^:\\n]+)");

    private ReadmeTest() {
    }

    public static void main(String[] args) throws Exception {
        String text = Files.readString(README, StandardCharsets.UTF_8);
        Path folder = Files.createTempDirectory("readme");
        try {
            commandsCompile(text, folder);
            programPrints(text, folder);
            testsAreNamed(text);
        } finally {
            removeAll(folder);
        }
        Check.end();
    }

    private static List<String> blocks(String text, String language) {
        List<String> blocks = new ArrayList<>();
        Matcher m = Pattern.compile("(?s)```" + language + "\n(.*?)```").matcher(text);
        while (m.find()) {
            blocks.add(m.group(1));
        }
        return blocks;
    }

    /** The commands as they are written, but for their folder "out", and the place where the program is saved. */
    private static void commandsCompile(String text, Path folder) throws IOException {
        Files.writeString(folder.resolve(EXAMPLE), blocks(text, "java").get(0), StandardCharsets.UTF_8);
        int compiled = 0;
        for (String block : blocks(text, "sh")) {
            for (String command : block.split("\n")) {
                List<String> words = new ArrayList<>(List.of(command.split(" ")));
                String name = words.remove(0);
                if (name.equals("javac")) {
                    words.replaceAll(word -> word.equals("out") || word.equals(EXAMPLE)
                        ? folder.resolve(word).toString() : word);
                    String[] arguments = words.toArray(new String[0]);
                    Check.same(command, ToolProvider.getSystemJavaCompiler().run(null, null, null, arguments), 0);
                    compiled++;
                } else if (name.equals("java")) {
                    String made = "out/" + words.get(words.size() - 1) + ".class";
                    Check.same(command + ": its class is there", Files.exists(folder.resolve(made)), (Object) true);
                } else {
                    Check.same(command + " can be run", Files.isExecutable(Path.of(name)), (Object) true);
                }
            }
        }
        Check.same("commands that compile", compiled, 2);
    }

    private static void programPrints(String text, Path folder) throws Exception {
        List<String> due = new ArrayList<>();
        Matcher m = PRINTED.matcher(blocks(text, "java").get(0));
        while (m.find()) {
            due.add(m.group(1));
        }
        Check.same("the program prints much", due.size() > 20, (Object) true);
        List<String> got = List.of(run(folder.resolve("out")).split("\\R"));
        for (int k = 0; k < due.size(); k++) {
            Check.same("line " + k + " that the program prints", k < got.size() ? got.get(k) : "none", due.get(k));
        }
        Check.same("lines that the program prints", got.size(), due.size());
    }

    private static String run(Path classes) throws Exception {
        PrintStream before = System.out;
        ByteArrayOutputStream printed = new ByteArrayOutputStream();
        ClassLoader none = ClassLoader.getPlatformClassLoader();
        try (URLClassLoader loader = new URLClassLoader(new URL[] {classes.toUri().toURL()}, none)) {
            System.setOut(new PrintStream(printed, true, StandardCharsets.UTF_8));
            loader.loadClass("Example").getMethod("main", String[].class).invoke(null, (Object) new String[0]);
        } finally {
            System.setOut(before);
        }
        return printed.toString(StandardCharsets.UTF_8);
    }

    private static void testsAreNamed(String text) throws IOException {
        TreeSet<String> there = new TreeSet<>();
        try (Stream<Path> files = Files.list(TESTS)) {
            files.forEach(file -> there.add(file.getFileName().toString().replace(".java", "")));
        }
        TreeSet<String> named = new TreeSet<>();
        Matcher m = Pattern.compile("`(\\w+Test|Check|PlainModel)`").matcher(text);
        while (m.find()) {
            named.add(m.group(1));
        }
        Check.same("the tests that are named", named, there);
    }

    private static void removeAll(Path folder) throws IOException {
        try (Stream<Path> files = Files.walk(folder)) {
            for (Path file : files.sorted(Comparator.reverseOrder()).toList()) {
                Files.delete(file);
            }
        }
    }
}
