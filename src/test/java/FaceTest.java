import java.io.IOException;
import java.lang.reflect.Field;
import java.lang.reflect.Method;
import java.lang.reflect.Modifier;
import java.nio.file.Files;
import java.nio.file.Path;
import java.util.Arrays;
import java.util.HashSet;
import java.util.List;
import java.util.Set;
import java.util.regex.Matcher;
import java.util.regex.Pattern;

/** The public face as the document has it, and those rules of LANGUAGE.md that can be looked up. */
public final class FaceTest {
    private static final String[] METHODS = {"int feed int long", "int read", "int place", "int part int int", "int needed int",
        "int together int int", "int cluster int", "int mobility", "int rank int", "int motion int int int", "int pose int",
        "long at int int", "int why int", "int order int int", "int flip int", "int trace int", "long curve int int",
        "int told int", "long ratio int int int", "int lock", "int fourBars int int int int", "int ask int int",
        "int trail int", "int is int int", "int as int int", "int lay int int int", "int drop int", "long put int int long",
        "long get int int", "int move int int int int int", "int keep int int", "int count int", "int status", "long digest"};
    private static final String[] CONSTANTS = {"NONE", "BAD", "STATE", "FULL"};
    private static final Path SOURCE = Path.of("src/main/java/LinkageCurves.java");
    private static final Check CHECK = new Check();

    public static void main(String[] args) throws IOException {
        members();
        constants();
        inside();
        words(Files.readString(SOURCE));
        lengths(Files.readAllLines(SOURCE));
        CHECK.end();
    }

    private static String signature(Method m) {
        StringBuilder b = new StringBuilder(m.getReturnType().getName()).append(' ').append(m.getName());
        for (Class<?> type : m.getParameterTypes()) {
            b.append(' ').append(type.getName());
        }
        return b.toString();
    }

    private static void members() {
        Class<?> face = LinkageCurves.class;
        CHECK.holds("public and final", Modifier.isPublic(face.getModifiers()) && Modifier.isFinal(face.getModifiers()));
        CHECK.due("constructors", face.getDeclaredConstructors().length, 1);
        CHECK.due("public constructors", face.getConstructors().length, 1);
        Set<String> due = new HashSet<>(Arrays.asList(METHODS));
        Set<String> names = new HashSet<>();
        for (Method m : face.getDeclaredMethods()) {
            if (!Modifier.isPrivate(m.getModifiers())) {
                CHECK.holds(signature(m) + " is of the face", Modifier.isPublic(m.getModifiers()) && due.remove(signature(m)));
                names.add(m.getName());
            }
        }
        CHECK.due("missing " + due, due.size(), 0);
        for (Method m : face.getDeclaredMethods()) {
            CHECK.holds(m.getName() + " is private", !Modifier.isPrivate(m.getModifiers()) || !names.contains(m.getName()));
        }
        for (Class<?> c : face.getDeclaredClasses()) {
            for (Method m : c.getDeclaredMethods()) {
                CHECK.holds(c.getName() + "." + m.getName() + " has a name of the face", !names.contains(m.getName()));
                CHECK.holds(c.getName() + "." + m.getName() + " takes too many", m.getParameterCount() <= 7);
            }
        }
    }

    private static void constants() {
        CHECK.due("NONE", LinkageCurves.NONE, -1000000);
        CHECK.due("BAD", LinkageCurves.BAD, -1000001);
        CHECK.due("STATE", LinkageCurves.STATE, -1000002);
        CHECK.due("FULL", LinkageCurves.FULL, -1000003);
        List<String> due = Arrays.asList(CONSTANTS);
        for (Field f : LinkageCurves.class.getDeclaredFields()) {
            CHECK.holds(f.getName(), Modifier.isPrivate(f.getModifiers()) || due.contains(f.getName()));
            CHECK.holds(f + ": static is final", !Modifier.isStatic(f.getModifiers()) || Modifier.isFinal(f.getModifiers()));
        }
    }

    private static void inside() {
        Class<?>[] classes = LinkageCurves.class.getDeclaredClasses();
        CHECK.holds("some twelve classes", classes.length + 1 <= 12);
        for (Class<?> c : classes) {
            CHECK.holds(c.getName() + " is static", Modifier.isStatic(c.getModifiers()));
            int fields = 0;
            for (Field f : c.getDeclaredFields()) {
                CHECK.holds(f + ": static is final", !Modifier.isStatic(f.getModifiers()) || Modifier.isFinal(f.getModifiers()));
                fields += Modifier.isStatic(f.getModifiers()) ? 0 : 1;
            }
            CHECK.holds(c.getName() + " has some twenty fields", fields <= 20);
        }
    }

    /** Rule 11: methods stay short. */
    private static void lengths(List<String> lines) {
        int start = -1;
        String indent = "";
        for (int i = 0; i < lines.size(); i++) {
            String line = lines.get(i);
            if (line.matches(" {4,8}[A-Za-z].*\\) \\{") && !line.contains(" new ")) {
                start = i;
                indent = line.substring(0, line.length() - line.stripLeading().length());
            } else if (start >= 0 && line.equals(indent + "}")) {
                CHECK.holds(lines.get(start).trim() + " is short", i - start < 60);
                start = -1;
            }
        }
    }

    private static void words(String source) {
        String code = source.replaceAll("(?s)/\\*.*?\\*/", "").replaceAll("//[^\n]*", "");
        String[] out = {"\\bthrow\\b", "\\bthrows\\b", "\\btry\\b", "\\bcatch\\b", "\\bsynchronized\\b", "\\bassert\\b", "->", "::",
            "Exact\\b", "\\bpackage\\b", "\\bprotected\\b", "\\bdouble\\b.*sqrt", "Math\\.sqrt", "Math\\.pow", "System\\.(?!arraycopy)",
            "\\bString\\[", "\\bnew Random\\b", "\\bhashCode\\b", "\\btoString\\b"};
        for (String form : out) {
            Matcher m = Pattern.compile(form).matcher(code);
            CHECK.holds("the code has " + form, !m.find());
        }
        Matcher imports = Pattern.compile("(?m)^import (.*);").matcher(code);
        while (imports.find()) {
            CHECK.holds("import " + imports.group(1), imports.group(1).matches("java\\.util\\.(Arrays|ArrayList|List)"));
        }
    }
}
