import java.nio.file.Path;
import java.util.List;

/** A test that fails, that breaks off or that does not end is told from one that passes. */
public final class LimitTest {
    private static final String JAVA = Path.of(System.getProperty("java.home"), "bin", "java").toString();

    public static void main(String[] args) throws Exception {
        switch (args[0]) {
            case "passes" -> System.out.println("passes");
            case "fails" -> System.exit(3);
            case "breaks off" -> throw new IllegalStateException("breaks off");
            case "does not end" -> neverEnd();
            default -> judgeAll();
        }
    }

    private static void neverEnd() {
        System.out.println(ProcessHandle.current().pid());
        int turns = 0;
        while (turns >= 0) {
            turns = turns + 1 & 1023;
        }
    }

    private static void judgeAll() throws Exception {
        judge("passes", "60", 0, "passes");
        judge("fails", "60", 3, "");
        judge("breaks off", "60", 1, "");
        String told = judge("does not end", "5", 1, "it does not end within 5 seconds");
        long pid = Long.parseLong(told.substring(0, told.indexOf('\n')));
        Check.holds("that nothing of it is left running", ProcessHandle.of(pid).isEmpty());
        Check.finish();
    }

    private static String judge(String kind, String seconds, int exitCode, String due) throws Exception {
        String classes = System.getProperty("java.class.path");
        List<String> command = List.of(JAVA, "-cp", classes, "Limit", seconds, JAVA, "-cp", classes, "LimitTest", kind);
        Process run = new ProcessBuilder(command).redirectError(ProcessBuilder.Redirect.DISCARD).start();
        String told = new String(run.getInputStream().readAllBytes());
        Check.same("the exit code of a test that " + kind, run.waitFor(), exitCode);
        Check.sameText("what is told last of a test that " + kind, lastLine(told), due);
        return told;
    }

    private static String lastLine(String told) {
        String[] lines = told.split("\n");
        return lines[lines.length - 1];
    }
}
