import java.io.PrintWriter;
import java.io.StringWriter;
import java.nio.file.Path;
import java.util.ArrayList;
import java.util.LinkedHashMap;
import java.util.List;
import java.util.Map;
import java.util.regex.Matcher;
import java.util.regex.Pattern;
import java.util.spi.ToolProvider;

/** The class and the classes inside it as they are compiled: each method with its steps, as javap tells them. */
final class Compiled {
    /** A step of a method; what it is about is a called method, a made class and the like, or empty. */
    record Step(String operation, String about) {
    }

    private static final Pattern HEADER = Pattern.compile("^ {2}(?! )(?:.* )?([\\w$]+)\\(.*\\).*;$");
    private static final Pattern DESCRIPTOR = Pattern.compile("^ {4}descriptor: (\\(.*)$");
    private static final Pattern STEP = Pattern.compile("^ +\\d+: (\\w+)(?:.*// \\w+ (.*))?.*$");

    final Map<String, List<Step>> methods = new LinkedHashMap<>();

    Compiled() throws Exception {
        read(StenoChords.class);
        for (Class<?> inside : StenoChords.class.getDeclaredClasses()) {
            read(inside);
        }
    }

    private void read(Class<?> type) throws Exception {
        Path classes = Path.of(StenoChords.class.getProtectionDomain().getCodeSource().getLocation().toURI());
        StringWriter told = new StringWriter();
        PrintWriter out = new PrintWriter(told);
        ToolProvider.findFirst("javap").orElseThrow()
                .run(out, out, "-p", "-c", "-s", classes.resolve(type.getName() + ".class").toString());
        String name = "";
        List<Step> steps = new ArrayList<>();
        for (String line : told.toString().split("\\R")) {
            Matcher header = HEADER.matcher(line);
            Matcher descriptor = DESCRIPTOR.matcher(line);
            Matcher step = STEP.matcher(line);
            if (header.matches()) {
                name = header.group(1).equals(type.getName()) ? "\"<init>\"" : header.group(1);
            } else if (descriptor.matches()) {
                steps = new ArrayList<>();
                methods.put(type.getName() + "." + name + ":" + descriptor.group(1), steps);
            } else if (line.trim().equals("Exception table:")) {
                steps.add(new Step("catch", ""));
            } else if (step.matches()) {
                steps.add(new Step(step.group(1), whole(type, step.group(1), step.group(2))));
            }
        }
    }

    /** javap leaves out the class of a method that stands in the same class. */
    private static String whole(Class<?> type, String operation, String about) {
        String told = about == null ? "" : about;
        return operation.startsWith("invoke") && told.indexOf('.') < 0 ? type.getName() + "." + told : told;
    }

    List<String> calledBy(String method) {
        List<String> called = new ArrayList<>();
        for (Step step : methods.getOrDefault(method, List.of())) {
            if (step.operation().startsWith("invoke")) {
                called.add(step.about());
            }
        }
        return called;
    }
}
