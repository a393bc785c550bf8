import java.lang.reflect.Constructor;
import java.lang.reflect.Field;
import java.lang.reflect.Member;
import java.lang.reflect.Method;
import java.lang.reflect.Modifier;
import java.nio.file.Files;
import java.nio.file.Path;
import java.util.Arrays;
import java.util.HashSet;
import java.util.List;
import java.util.Set;
import java.util.TreeSet;
import java.util.regex.Pattern;

/** The document's public face, no more and no less, and the rules of LANGUAGE.md that can be seen from outside. */
public final class FaceTest {
    private static final Checks CHECKS = new Checks();
    private static final String FACE = "feed(iiiii)i rules(i)i fault(i)i days(i)i court(ii)i point()i oppose(iib)b "
        + "kase(iiii)i holds(iiiib)i treats(iiii)i statute(iib)i join(ii)i strike(i)i stand(iiiii)i lead(iiiii)i "
        + "asked(iiiii)i binds(iiiiii)i quarrel(iiii)i forgotten(ii)i apart(iiii)i hangs(iiiii)i joined(ii)i look(ii)i "
        + "count(i)i";

    public static void main(String[] args) throws Exception {
        face();
        hidden();
        source(Files.readString(Path.of("src/main/java/ReportedCases.java")));
        CHECKS.finish();
    }

    private static String letter(Class<?> type) {
        return type == int.class ? "i" : type == boolean.class ? "b" : "?";
    }

    private static void face() throws Exception {
        Set<String> got = new TreeSet<>();
        for (Method m : ReportedCases.class.getDeclaredMethods()) {
            if (Modifier.isPublic(m.getModifiers())) {
                StringBuilder s = new StringBuilder(m.getName()).append("(");
                Arrays.stream(m.getParameterTypes()).forEach(t -> s.append(letter(t)));
                got.add(s.append(")").append(letter(m.getReturnType())).toString());
            }
        }
        Set<String> want = new TreeSet<>(List.of(FACE.split(" ")));
        CHECKS.due("the face " + got, got.equals(want), true);
        CHECKS.due("public and final", ReportedCases.class.getModifiers(), Modifier.PUBLIC | Modifier.FINAL);
        Constructor<?>[] constructors = ReportedCases.class.getConstructors();
        CHECKS.due("constructors", constructors.length, 1);
        CHECKS.due("its parameters", constructors[0].getParameterCount(), 0);
        CHECKS.due("NONE", ReportedCases.class.getField("NONE").getInt(null), -1);
        Set<Class<?>> thrown = Set.of(ReportedCases.class.getMethod("look", int.class, int.class).getExceptionTypes());
        CHECKS.due("what look throws",
            thrown.equals(Set.of(IndexOutOfBoundsException.class, java.util.NoSuchElementException.class)), true);
    }

    private static void hidden() {
        Set<String> publicNames = new HashSet<>();
        for (String m : FACE.split(" ")) {
            publicNames.add(m.substring(0, m.indexOf('(')));
        }
        for (Method m : ReportedCases.class.getDeclaredMethods()) {
            privateUnlessOfFace(m, publicNames.contains(m.getName()));
        }
        for (Field f : ReportedCases.class.getDeclaredFields()) {
            privateUnlessOfFace(f, f.getName().equals("NONE"));
            CHECKS.due(f.getName() + " is final if static",
                !Modifier.isStatic(f.getModifiers()) || Modifier.isFinal(f.getModifiers()), true);
        }
        for (Class<?> c : ReportedCases.class.getDeclaredClasses()) {
            CHECKS.due(c + " is static", Modifier.isStatic(c.getModifiers()), true);
            CHECKS.due(c + " is hidden", Modifier.isPublic(c.getModifiers()), false);
            for (Method m : c.getDeclaredMethods()) {
                CHECKS.due(c + "." + m.getName() + " bears a public name", publicNames.contains(m.getName()), false);
                CHECKS.due("parameters of " + m.getName() + " beyond seven", m.getParameterCount() > 7, false);
            }
        }
        CHECKS.due("too many classes", ReportedCases.class.getDeclaredClasses().length > 12, false);
    }

    private static void privateUnlessOfFace(Member m, boolean ofFace) {
        if (!m.isSynthetic()) {
            CHECKS.due(m.getName() + " is private", Modifier.isPrivate(m.getModifiers()), !ofFace);
        }
    }

    private static void source(String text) {
        String code = text.replaceAll("//[^\n]*", "").replaceAll("(?s)/\\*.*?\\*/", "");
        for (String word : List.of("->", "::", "\\bfinally\\b", "\\bcatch\\b", "\\btry\\b", "\\bassert\\b", "synchronized",
            "Exact\\(", "\\bvar\\b", "while \\(true\\)", "for \\(;;", "System\\.(?!arraycopy)", "HashMap", "\\bdouble\\b",
            "\\bprotected\\b", "static \\{")) {
            CHECKS.due("the source has " + word, Pattern.compile(word).matcher(code).find(), false);
        }
        Pattern.compile("^import (.*);$", Pattern.MULTILINE).matcher(code).results().forEach(r -> CHECKS.due(
            "import " + r.group(1), Set.of("java.util.Arrays", "java.util.NoSuchElementException").contains(r.group(1)),
            true));
        longMethods(text.split("\n"));
    }

    private static void longMethods(String[] lines) {
        int start = -1;
        for (int i = 0; i < lines.length; i++) {
            if (lines[i].matches(" {4}( {4})?[a-zA-Z].*\\).* \\{") && !lines[i].contains("class ")) {
                start = i;
            }
            if (lines[i].matches(" {4}( {4})?\\}") && start >= 0) {
                CHECKS.due("a long method at line " + (start + 1), i - start > 60, false);
                start = -1;
            }
            CHECKS.due("a sign beyond 127 at line " + (i + 1), lines[i].chars().anyMatch(c -> c > 127), false);
        }
    }
}
