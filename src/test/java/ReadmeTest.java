import java.io.IOException;
import java.lang.reflect.Method;
import java.lang.reflect.Modifier;
import java.nio.file.Files;
import java.nio.file.Path;
import java.util.ArrayList;
import java.util.List;
import java.util.stream.Stream;

/**
 * README.md, done as it is written, in a copy of the project. Wants the paths of the source and of the
 * document as its arguments.
 */
public final class ReadmeTest {
    private final Path root;
    private final Path document;
    private final List<String> readme;

    private ReadmeTest(Path source, Path document) throws IOException {
        this.root = source.toAbsolutePath().normalize().getParent().getParent().getParent().getParent();
        this.document = document;
        this.readme = Files.readAllLines(root.resolve("README.md"));
    }

    public static void main(String[] args) throws Exception {
        ReadmeTest test = new ReadmeTest(Path.of(args[0]), Path.of(args[1]));
        Path place = Files.createTempDirectory("readme");
        try {
            test.everyCallIsNamed();
            test.everyTestIsNamed();
            test.wayOfUse(place);
            test.wayOfTesting(place);
        } finally {
            remove(place);
        }
        Check.finish();
    }

    private void everyCallIsNamed() {
        String words = String.join("\n", readme);
        for (Method method : StenoChords.class.getDeclaredMethods()) {
            if (Modifier.isPublic(method.getModifiers())) {
                Check.holds("that README.md names " + method.getName(), words.contains("`" + method.getName() + "`"));
            }
        }
    }

    private void everyTestIsNamed() throws IOException {
        String words = String.join("\n", readme);
        for (Path file : inside(root.resolve("src/test/java"))) {
            String name = file.getFileName().toString();
            if (name.endsWith("Test.java")) {
                Check.holds("that README.md names " + name, words.contains("`" + name.replace(".java", "") + "`"));
            }
        }
    }

    private void wayOfUse(Path place) throws Exception {
        Path project = copy(place.resolve("using/project"));
        List<String> code = blocks("How to use it", "java");
        List<String> commands = blocks("How to use it", "sh");
        List<String> printed = blocks("How to use it", "text");
        Check.same("a program, its commands and what it prints", code.size() * 100 + commands.size() * 10 + printed.size(), 111);
        Files.writeString(project.resolve("Example.java"), code.get(0));
        Check.sameText("the program of README.md", run(project, commands.get(0)), printed.get(0));
    }

    private void wayOfTesting(Path place) throws Exception {
        List<String> commands = blocks("How to test it", "sh");
        Check.same("ways of testing", commands.size(), 2);
        Check.holds("that the first way can be called", Files.isExecutable(root.resolve(commands.get(0).trim())));
        Path project = copy(place.resolve("testing/project"));
        String told = run(project, commands.get(1));
        Check.holds("that one test alone passes: " + told, told.endsWith(" answers right, 0 wrong\n"));
    }

    /** The blocks of one kind under a heading, each with its lines' ends. */
    private List<String> blocks(String heading, String kind) {
        List<String> found = new ArrayList<>();
        boolean under = false;
        StringBuilder block = null;
        for (String line : readme) {
            if (line.startsWith("## ")) {
                under = line.equals("## " + heading);
            } else if (block == null && under && line.equals("```" + kind)) {
                block = new StringBuilder();
            } else if (block != null && line.equals("```")) {
                found.add(block.toString());
                block = null;
            } else if (block != null) {
                block.append(line).append('\n');
            }
        }
        return found;
    }

    /** A copy of the project's sources, with the document beside it. */
    private Path copy(Path project) throws IOException {
        for (Path file : inside(root.resolve("src"))) {
            Path target = project.resolve(root.relativize(file).toString());
            Files.createDirectories(target.getParent());
            Files.copy(file, target);
        }
        Path shared = project.resolveSibling("shared");
        Files.createDirectories(shared);
        Files.copy(document, shared.resolve("DOC.md"));
        return project;
    }

    private static List<Path> inside(Path directory) throws IOException {
        try (Stream<Path> files = Files.walk(directory)) {
            return files.filter(Files::isRegularFile).toList();
        }
    }

    private static String run(Path project, String commands) throws Exception {
        Process run = new ProcessBuilder("sh", "-e", "-c", commands).directory(project.toFile())
                .redirectErrorStream(true).start();
        String told = new String(run.getInputStream().readAllBytes());
        Check.same("the exit code of " + commands, run.waitFor(), 0);
        return told;
    }

    private static void remove(Path place) throws IOException {
        List<Path> all;
        try (Stream<Path> files = Files.walk(place)) {
            all = new ArrayList<>(files.toList());
        }
        for (int last = all.size() - 1; last >= 0; last--) {
            Files.delete(all.get(last));
        }
    }
}
