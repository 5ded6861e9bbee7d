import java.lang.reflect.Constructor;
import java.lang.reflect.Field;
import java.lang.reflect.Member;
import java.lang.reflect.Method;
import java.lang.reflect.Modifier;
import java.nio.file.Files;
import java.nio.file.Path;
import java.util.ArrayList;
import java.util.List;
import java.util.TreeSet;

/** The public face as the document tells it. Wants the path of the document as its second argument. */
public final class FaceTest {
    public static void main(String[] args) throws Exception {
        face(args[1]);
        constants();
        Check.finish();
    }

    private static void face(String document) throws Exception {
        TreeSet<String> due = new TreeSet<>();
        for (String line : Files.readAllLines(Path.of(document))) {
            if (line.startsWith("    public ") && line.contains("(") && !line.contains("StenoChords(")) {
                due.add(line.replaceAll("public |;", "").trim());
            }
        }
        Check.same("the document's methods", due.size(), 27);
        TreeSet<String> found = new TreeSet<>();
        for (Method method : StenoChords.class.getDeclaredMethods()) {
            if (seen(method)) {
                found.add(told(method));
            }
        }
        due.removeIf(method -> found.remove(withoutNames(method)));
        Check.sameText("methods that lack", due.toString(), "[]");
        Check.sameText("methods too many", found.toString(), "[]");
        for (Constructor<?> made : StenoChords.class.getDeclaredConstructors()) {
            Check.holds("the public constructor", made.getParameterCount() == 0 && Modifier.isPublic(made.getModifiers()));
        }
        Check.holds("a final class", Modifier.isFinal(StenoChords.class.getModifiers()));
    }

    private static void constants() {
        List<String> seen = new ArrayList<>();
        for (Field field : StenoChords.class.getDeclaredFields()) {
            if (seen(field)) {
                seen.add(field.getName());
            }
        }
        Check.sameText("the public constants", seen.toString(), "[NONE]");
        Check.same("NONE", StenoChords.NONE, -1);
    }

    private static boolean seen(Member member) {
        return !Modifier.isPrivate(member.getModifiers()) && !member.isSynthetic();
    }

    private static String told(Method method) {
        StringBuilder told = new StringBuilder(method.getReturnType().getName());
        told.append(' ').append(method.getName()).append('(').append(names(method.getParameterTypes())).append(')');
        if (method.getExceptionTypes().length > 0) {
            told.append(" throws ").append(names(method.getExceptionTypes()));
        }
        return told.toString();
    }

    private static String names(Class<?>[] types) {
        StringBuilder names = new StringBuilder();
        for (Class<?> type : types) {
            names.append(names.length() == 0 ? "" : ", ").append(type.getSimpleName());
        }
        return names.toString();
    }

    /** A method as the document tells it, but without the names of its arguments. */
    private static String withoutNames(String method) {
        return method.replaceAll("\\bint (\\w+)(?=[,)])", "int");
    }
}
