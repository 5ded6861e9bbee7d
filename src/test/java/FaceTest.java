import java.lang.reflect.Constructor;
import java.lang.reflect.Field;
import java.lang.reflect.Member;
import java.lang.reflect.Method;
import java.lang.reflect.Modifier;
import java.nio.file.Files;
import java.nio.file.Path;
import java.util.ArrayList;
import java.util.Arrays;
import java.util.List;
import java.util.TreeSet;
import java.util.regex.Pattern;

/** The public face, and what LANGUAGE.md forbids that a look at the source finds. */
public final class FaceTest {
    private static final String[] FACE = {
        "int strike(int)", "int play()", "int tear()", "int pick(int,int)", "int define(int)",
        "int remove(int)", "int set(int,int)", "int append(int)", "int clearBuffer()",
        "int firstError()", "int keep()", "int goBack()", "int undo()", "int stroke(int)",
        "int item(int,int)", "int entry(int,int)", "int count(int)", "int setting(int)",
        "int ifStruck(int,int)", "int begun(int)", "int shortest(int)", "int behind(int,int)",
        "int clashes()", "int least()", "double readShare()", "float meanKeys()", "long digest()"};
    private static final String[] FORBIDDEN = {
        "^\\s*(import|package)\\b", "->", "::", "\\bcatch\\b", "\\bfinally\\b", "Exact\\(",
        "\\b(Double|Float|Object|System|Thread)\\b", "\\bsynchronized\\b", "\\bassert\\b",
        "\\b(equals|hashCode|toString)\\("};

    public static void main(String[] args) throws Exception {
        face();
        constants();
        language(args[0]);
        Check.finish();
    }

    private static void face() {
        TreeSet<String> found = new TreeSet<>();
        for (Method method : StenoChords.class.getDeclaredMethods()) {
            if (seen(method)) {
                found.add(told(method));
            }
        }
        Check.sameText("the public methods", found.toString(), new TreeSet<>(Arrays.asList(FACE)).toString());
        for (Constructor<?> made : StenoChords.class.getDeclaredConstructors()) {
            Check.holds("the public constructor", made.getParameterCount() == 0 && Modifier.isPublic(made.getModifiers()));
        }
        Check.holds("a final class", Modifier.isFinal(StenoChords.class.getModifiers()));
    }

    private static void constants() {
        List<String> seen = new ArrayList<>();
        for (Field field : StenoChords.class.getDeclaredFields()) {
            if (seen(field)) {
                seen.add(field.getName());
            }
        }
        Check.sameText("the public constants", seen.toString(), "[NONE]");
        Check.same("NONE", StenoChords.NONE, -1);
    }

    private static boolean seen(Member member) {
        return !Modifier.isPrivate(member.getModifiers()) && !member.isSynthetic();
    }

    private static String told(Method method) {
        StringBuilder told = new StringBuilder(method.getReturnType().getName());
        told.append(' ').append(method.getName()).append('(');
        for (int i = 0; i < method.getParameterCount(); i++) {
            told.append(i == 0 ? "" : ",").append(method.getParameterTypes()[i].getName());
        }
        return told.append(')').toString();
    }

    private static void language(String source) throws Exception {
        for (String line : Files.readAllLines(Path.of(source))) {
            for (String forbidden : FORBIDDEN) {
                if (!line.trim().startsWith("*") && !line.trim().startsWith("//")) {
                    Check.holds("no " + forbidden + " in " + line, !Pattern.compile(forbidden).matcher(line).find());
                }
            }
        }
    }
}
