import java.lang.reflect.Constructor;
import java.lang.reflect.Field;
import java.lang.reflect.Method;
import java.lang.reflect.Modifier;
import java.nio.file.Files;
import java.nio.file.Path;
import java.util.ArrayList;
import java.util.HashSet;
import java.util.List;
import java.util.Set;
import java.util.TreeSet;
import java.util.regex.Matcher;
import java.util.regex.Pattern;

/**
 * The rules of LANGUAGE.md, as far as the source's words and the compiled class show them; where the class
 * does without what they allow (tables, catches, objects made by calls), the test does too.
 */
public final class LanguageTest {
    private static final Pattern NO_CODE = Pattern.compile(
            "(\"(?:\\\\.|[^\"\\\\])*\")|('(?:\\\\.|[^'\\\\])+')|//[^\n]*|/\\*.*?\\*/", Pattern.DOTALL);
    private static final String[] FORBIDDEN = {
        "\\b(import|package|protected)\\b", "->", "::", "\\b(try|catch|finally)\\b", "Exact\\(",
        "\\b(synchronized|assert|volatile|native)\\b", "\\b(equals|hashCode|toString)\\(",
        "\\b(while|for) *\\((true|;;)", "\\+ *\"", "\" *\\+", "NaN", "case .*->", "\\bstatic *\\{"};
    private static final Set<String> NAMES = Set.of("StenoChords", "String", "Integer", "Long", "Math",
            "IllegalArgumentException", "IllegalStateException", "IndexOutOfBoundsException");
    private static final Set<String> LIBRARY = Set.of("java/lang/Object.\"<init>\":()V", "java/lang/Math.max:(II)I",
            "java/lang/Math.min:(II)I", "java/lang/Math.floorMod:(II)I", "java/lang/Integer.bitCount:(I)I",
            "java/lang/Long.bitCount:(J)I", "java/lang/String.indexOf:(I)I");
    private static final Set<String> NO_STEPS = Set.of("invokedynamic", "monitorenter", "checkcast", "catch");
    private static final int LONGEST_METHOD = 60;
    private static final int DEEPEST_CALLS = 8;

    private final List<Class<?>> types = new ArrayList<>();
    private final Set<String> insideNames = new HashSet<>();
    private final Compiled compiled = new Compiled();
    private final String code;

    private LanguageTest(String source) throws Exception {
        code = withoutTexts(source);
        types.add(StenoChords.class);
        for (Class<?> inside : StenoChords.class.getDeclaredClasses()) {
            types.add(inside);
            insideNames.add(inside.getSimpleName());
        }
    }

    public static void main(String[] args) throws Exception {
        String source = Files.readString(Path.of(args[0]));
        signs(source);
        LanguageTest test = new LanguageTest(source);
        test.words();
        test.lengths();
        test.types.forEach(test::typeIsPlain);
        test.typesAreFew();
        test.privateNames();
        test.compiled.methods.forEach(test::steps);
        test.depth();
        Check.finish();
    }

    private static void signs(String source) {
        Check.holds("signs from 1 to 127 alone", source.chars().allMatch(sign -> sign >= 1 && sign <= 127));
    }

    /** The source with its lines, but without comments and without what its texts say. */
    private static String withoutTexts(String source) {
        return NO_CODE.matcher(source).replaceAll(found -> found.group(1) != null ? "\"\"" : found.group(2) != null ? "'x'"
                : Matcher.quoteReplacement(found.group().replaceAll("[^\n]", "")));
    }

    private void words() {
        for (String forbidden : FORBIDDEN) {
            Check.holds("that the source does without " + forbidden, !Pattern.compile(forbidden).matcher(code).find());
        }
        Matcher names = Pattern.compile("\\b[A-Z]\\w*[a-z]\\w*").matcher(code);
        while (names.find()) {
            String name = names.group();
            Check.holds("the name " + name, NAMES.contains(name) || insideNames.contains(name));
        }
    }

    private void lengths() {
        String[] lines = code.split("\n");
        for (int first = 0; first < lines.length; first++) {
            Matcher head = Pattern.compile("^( +)(?!class)[\\w ]*[\\w\\[\\]]+ \\w+\\(.*").matcher(lines[first]);
            if (head.matches() && !lines[first].endsWith(";")) {
                int last = first;
                while (!lines[last].equals(head.group(1) + "}")) {
                    last++;
                }
                Check.holds("a short method: " + lines[first].trim(), last - first < LONGEST_METHOD);
            }
        }
    }

    private void typeIsPlain(Class<?> type) {
        int fields = 0;
        for (Field field : type.getDeclaredFields()) {
            boolean fixed = Modifier.isStatic(field.getModifiers());
            fields += fixed ? 0 : 1;
            Check.holds("the type of " + field, isPlain(field.getType()));
            Check.holds("a constant: " + field, !fixed || Modifier.isFinal(field.getModifiers())
                    && (field.getType().isPrimitive() || field.getType() == String.class));
        }
        Check.holds("some twenty fields at most in " + type, fields <= 20);
        for (Method method : type.getDeclaredMethods()) {
            Check.holds("seven parameters at most: " + method, method.getParameterCount() <= 7);
            Check.holds("plain types: " + method, isPlain(method.getReturnType()) || method.getReturnType() == void.class);
        }
        for (Constructor<?> made : type.getDeclaredConstructors()) {
            Check.holds("a constructor throws nothing: " + made, made.getExceptionTypes().length == 0);
        }
        int modifiers = type.getModifiers();
        Check.holds("a static class inside, not a public one: " + type, type == StenoChords.class
                || Modifier.isStatic(modifiers) && !Modifier.isPublic(modifiers) && !Modifier.isProtected(modifiers));
    }

    private boolean isPlain(Class<?> type) {
        Class<?> kind = type.isArray() ? type.getComponentType() : type;
        return kind.isPrimitive() || types.contains(kind) || type == String.class;
    }

    private void typesAreFew() {
        Check.holds("some twelve classes at most", types.size() <= 12);
        for (Class<?> inside : types.subList(1, types.size())) {
            Check.same("classes in a class inside", inside.getDeclaredClasses().length, 0);
        }
    }

    private void privateNames() {
        Set<String> face = new HashSet<>();
        for (Method method : StenoChords.class.getDeclaredMethods()) {
            if (Modifier.isPublic(method.getModifiers())) {
                face.add(method.getName());
            }
        }
        for (Class<?> type : types) {
            for (Method method : type.getDeclaredMethods()) {
                boolean hidden = Modifier.isPrivate(method.getModifiers());
                Check.holds("a name of its own: " + method, !hidden || !face.contains(method.getName()));
            }
        }
    }

    // ---- as it is compiled

    private void steps(String method, List<Compiled.Step> steps) {
        boolean makes = method.contains("<init>");
        TreeSet<String> thrown = new TreeSet<>();
        for (Compiled.Step step : steps) {
            String told = method + ": " + step.operation() + " " + step.about();
            Check.holds("an allowed step: " + told, !NO_STEPS.contains(step.operation()));
            Check.holds("no throw in a constructor: " + told, !makes || !step.operation().equals("athrow"));
            if (step.operation().equals("new") && step.about().endsWith("Exception")) {
                thrown.add(step.about().replace("java/lang/", ""));
            } else if (step.operation().equals("new") || step.operation().endsWith("newarray")) {
                Check.holds("objects are made by constructors alone: " + told, makes);
            }
            if (step.operation().startsWith("invoke")) {
                Check.holds("what is called: " + told, compiled.methods.containsKey(step.about())
                        || LIBRARY.contains(step.about())
                        || step.about().endsWith("Exception.\"<init>\":(Ljava/lang/String;)V"));
            }
        }
        Check.sameText("what " + method + " throws", thrown.toString(), declared(method).toString());
    }

    /** The exceptions that the face names for a method. */
    private static TreeSet<String> declared(String told) {
        TreeSet<String> names = new TreeSet<>();
        for (Method method : StenoChords.class.getDeclaredMethods()) {
            if (told.startsWith("StenoChords." + method.getName() + ":")) {
                for (Class<?> exception : method.getExceptionTypes()) {
                    names.add(exception.getSimpleName());
                }
            }
        }
        return names;
    }

    private void depth() {
        int deepest = 0;
        for (String method : compiled.methods.keySet()) {
            deepest = Math.max(deepest, depthOf(method, 1));
        }
        Check.holds("calls go at most eight deep, not " + deepest, deepest <= DEEPEST_CALLS);
        Check.holds("that calls were found", deepest > 3);
    }

    /** How deep the calls of a method go; a chain that comes back to itself ends far beyond the limit. */
    private int depthOf(String method, int above) {
        int deepest = above;
        if (above <= 2 * DEEPEST_CALLS) {
            for (String called : compiled.calledBy(method)) {
                if (compiled.methods.containsKey(called)) {
                    deepest = Math.max(deepest, depthOf(called, above + 1));
                }
            }
        }
        return deepest;
    }
}
