import java.util.Arrays;
import java.util.concurrent.TimeUnit;

/**
 * Runs a command for at most so many seconds. Ends with the command's exit code; a command that does
 * not end in time is ended, and has failed.
 */
public final class Limit {
    public static void main(String[] args) throws Exception {
        Process command = new ProcessBuilder(Arrays.asList(args).subList(1, args.length)).inheritIO().start();
        if (!command.waitFor(Long.parseLong(args[0]), TimeUnit.SECONDS)) {
            // Also what the command has started itself, such as the program that ReadmeTest runs.
            command.descendants().forEach(ProcessHandle::destroyForcibly);
            command.destroyForcibly().waitFor();
            System.out.println("it does not end within " + args[0] + " seconds");
            System.exit(1);
        }
        System.exit(command.exitValue());
    }
}
