import java.io.IOException;
import java.lang.reflect.InvocationTargetException;
import java.lang.reflect.Method;
import java.lang.reflect.Modifier;
import java.net.URL;
import java.net.URLClassLoader;
import java.nio.file.Files;
import java.nio.file.Path;
import java.nio.file.StandardCopyOption;
import java.util.ArrayList;
import java.util.Comparator;
import java.util.List;
import java.util.regex.Matcher;
import java.util.regex.Pattern;
import java.util.stream.Stream;
import javax.tools.ToolProvider;

/** What README.md shows: each call answers what stands behind it, and each way to run the tests works. */
public final class ReadmeTest {
    private static final Pattern TOLD = Pattern.compile("(.*?;)\\s+// (.*)");
    private static final Pattern NAMED = Pattern.compile("\\w+ (\\w+) = .*");
    private static final String REFUSAL = "throws ";

    private final String readme;
    private final Path room;
    private final StringBuilder source = new StringBuilder("public final class Shown {\n");
    /** For each line with an answer: the line, and the answer. */
    private final List<String[]> told = new ArrayList<>();

    private ReadmeTest(String readme, Path room) {
        this.readme = readme;
        this.room = room;
    }

    public static void main(String[] args) throws Exception {
        Path room = Files.createTempDirectory("readme");
        try {
            ReadmeTest test = new ReadmeTest(Files.readString(Path.of("README.md")), room);
            test.callsAnswerAsTold();
            test.everyCallOfTheFaceIsShown();
            test.waysToRunTestsWork();
        } finally {
            remove(room);
        }
        Check.finish();
    }

    private List<String> blocksOf(String language) {
        List<String> blocks = new ArrayList<>();
        Matcher block = Pattern.compile("```" + language + "\n(.*?)```", Pattern.DOTALL).matcher(readme);
        while (block.find()) {
            blocks.add(block.group(1));
        }
        Check.holds("blocks of " + language, !blocks.isEmpty());
        return blocks;
    }

    private void callsAnswerAsTold() throws Exception {
        int number = 0;
        for (String block : blocksOf("java")) {
            source.append("static void block").append(number++).append("(java.util.List<String> got) {\n");
            block.lines().forEach(this::addLine);
            source.append("}\n");
        }
        source.append("public static void run(java.util.List<String> got) {\n");
        for (int i = 0; i < number; i++) {
            source.append("block").append(i).append("(got);\n");
        }
        source.append("}\n}\n");
        List<String> got = new ArrayList<>();
        runShown(got);
        Check.due("answers of README.md", got.size(), told.size());
        for (int i = 0; i < Math.min(got.size(), told.size()); i++) {
            Check.due("README.md, " + told.get(i)[0], got.get(i), told.get(i)[1]);
        }
    }

    /** A line without a told answer is run as it stands. */
    private void addLine(String line) {
        Matcher parts = TOLD.matcher(line);
        if (!parts.matches()) {
            Check.holds("README.md tells what is answered by " + line, !line.matches("net\\..*;"));
            source.append(line).append('\n');
            return;
        }
        String code = parts.group(1);
        String answer = parts.group(2).split(": ", 2)[0];
        told.add(new String[] {code, answer});
        Matcher named = NAMED.matcher(code);
        if (answer.startsWith(REFUSAL)) {
            source.append("try { ").append(code).append(" got.add(\"nothing thrown\"); } catch (RuntimeException e) { got.add(\"")
                .append(REFUSAL).append("\" + e.getClass().getSimpleName()); }\n");
        } else if (named.matches()) {
            source.append(code).append(" got.add(\"\" + ").append(named.group(1)).append(");\n");
        } else {
            source.append("got.add(\"\" + ").append(code, 0, code.length() - 1).append(");\n");
        }
    }

    private void runShown(List<String> got) throws Exception {
        Path file = Files.writeString(room.resolve("Shown.java"), source);
        int code = ToolProvider.getSystemJavaCompiler().run(null, null, null, "-classpath",
            System.getProperty("java.class.path"), "-d", room.toString(), file.toString());
        Check.due("exit code of javac over what README.md shows", code, 0);
        if (code != 0) {
            return;
        }
        try (URLClassLoader loader = new URLClassLoader(new URL[] {room.toUri().toURL()})) {
            loader.loadClass("Shown").getMethod("run", List.class).invoke(null, got);
        } catch (InvocationTargetException e) {
            Check.due("what README.md shows", "threw " + e.getCause(), "no exception");
        }
    }

    private void everyCallOfTheFaceIsShown() {
        for (Method method : MeshBiller.class.getDeclaredMethods()) {
            if (Modifier.isPublic(method.getModifiers())) {
                Check.holds("README.md shows " + method.getName(), readme.contains("net." + method.getName() + "("));
            }
        }
    }

    /** .ci/run itself runs this test, so of it no more is looked at than that it can be run. */
    private void waysToRunTestsWork() throws Exception {
        Path checkout = copyOfTheProject();
        for (String block : blocksOf("sh")) {
            if (block.equals(".ci/run\n")) {
                Check.holds(".ci/run can be run", Files.isExecutable(checkout.resolve(".ci/run")));
            } else {
                Process shell = new ProcessBuilder("sh", "-e", "-c", block).directory(checkout.toFile())
                    .redirectErrorStream(true).redirectOutput(room.resolve("out").toFile()).start();
                int code = shell.waitFor();
                Check.due("exit code of\n" + block + Files.readString(room.resolve("out")), code, 0);
            }
        }
        Check.holds("README.md tells of .ci/run", readme.contains("```sh\n.ci/run\n```"));
    }

    /** What a clean checkout has, and ../shared beside it: nothing that was built before. */
    private Path copyOfTheProject() throws IOException {
        Path checkout = Files.createDirectory(room.resolve("main"));
        for (String part : new String[] {"src", ".ci", "README.md"}) {
            copy(Path.of(part), checkout.resolve(part));
        }
        copy(Path.of("../shared/tests"), Files.createDirectory(room.resolve("shared")).resolve("tests"));
        return checkout;
    }

    private static void copy(Path from, Path to) throws IOException {
        try (Stream<Path> all = Files.walk(from)) {
            for (Path path : (Iterable<Path>) all::iterator) {
                Path target = to.resolve(from.relativize(path).toString());
                if (Files.isDirectory(path)) {
                    Files.createDirectories(target);
                } else {
                    Files.copy(path, target, StandardCopyOption.COPY_ATTRIBUTES);
                }
            }
        }
    }

    private static void remove(Path room) throws IOException {
        try (Stream<Path> all = Files.walk(room)) {
            for (Path path : (Iterable<Path>) all.sorted(Comparator.reverseOrder())::iterator) {
                Files.delete(path);
            }
        }
    }
}
