import java.io.IOException;
import java.lang.reflect.Constructor;
import java.lang.reflect.Field;
import java.lang.reflect.Method;
import java.lang.reflect.Modifier;
import java.nio.charset.StandardCharsets;
import java.nio.file.Files;
import java.nio.file.Path;
import java.util.ArrayList;
import java.util.HashSet;
import java.util.List;
import java.util.Set;
import java.util.TreeSet;
import java.util.regex.Matcher;
import java.util.regex.Pattern;

/** The face is the document's and no other, and the source keeps to what can be seen of LANGUAGE.md from outside. */
public final class BlushCourtFace {
    private static final Path DOC = Path.of("../shared/DOC.md");
    private static final Path SOURCE = Path.of("src/main/java/BlushCourt.java");
    private static int wrong = 0;

    private static void is(String what, Object got, Object due) {
        if (!got.equals(due)) {
            wrong++;
            System.out.println(what + ": " + got + ", due is " + due);
        }
    }

    public static void main(String[] args) throws IOException {
        face();
        members();
        source();
        System.out.println(wrong == 0 ? "the face is the document's" : wrong + " faults of the face");
        if (wrong != 0) {
            System.exit(1);
        }
    }

    private static void face() throws IOException {
        Set<String> due = new TreeSet<>();
        Matcher m = Pattern.compile("    public (\\w+) (\\w+)\\(([^)]*)\\)( throws [^;]*)?;").matcher(Files.readString(DOC));
        while (m.find()) {
            String types = m.group(3).replaceAll("(\\w+) \\w+", "$1");
            String thrown = m.group(4) == null ? "" : m.group(4).substring(8);
            due.add(m.group(1) + " " + m.group(2) + "(" + types + ") " + thrown);
        }
        Set<String> got = new TreeSet<>();
        for (Method method : BlushCourt.class.getDeclaredMethods()) {
            if (Modifier.isPublic(method.getModifiers())) {
                got.add(method.getReturnType().getSimpleName() + " " + method.getName() + "("
                        + names(method.getParameterTypes()) + ") " + names(method.getExceptionTypes()));
            }
        }
        is("how many methods the document tells", due.size(), 58);
        is("methods", got, due);
    }

    private static String names(Class<?>[] types) {
        List<String> names = new ArrayList<>();
        for (Class<?> type : types) {
            names.add(type.getSimpleName());
        }
        return String.join(", ", names);
    }

    private static void members() {
        Class<?> face = BlushCourt.class;
        is("public and final", face.getModifiers(), Modifier.PUBLIC | Modifier.FINAL);
        is("constructors", face.getDeclaredConstructors().length, 1);
        for (Constructor<?> c : face.getDeclaredConstructors()) {
            is("constructor", c.toString(), "public BlushCourt()");
        }
        for (Field f : face.getDeclaredFields()) {
            boolean none = f.getName().equals("NONE");
            is("field " + f.getName(), Modifier.isPrivate(f.getModifiers()), !none);
        }
        Set<String> open = new HashSet<>();
        for (Method m : face.getDeclaredMethods()) {
            if (Modifier.isPublic(m.getModifiers())) {
                open.add(m.getName());
            } else {
                is("method " + m.getName() + " is private", Modifier.isPrivate(m.getModifiers()), true);
            }
        }
        is("classes inside, at most", face.getDeclaredClasses().length <= 12, true);
        for (Class<?> inside : face.getDeclaredClasses()) {
            is(inside + " is static", Modifier.isStatic(inside.getModifiers()), true);
            is(inside + " is not open", inside.getModifiers() & (Modifier.PUBLIC | Modifier.PROTECTED), 0);
            for (Field f : inside.getDeclaredFields()) {
                int how = f.getModifiers();
                is(inside + " " + f.getName(), !Modifier.isStatic(how) || Modifier.isFinal(how), true);
            }
            for (Method m : inside.getDeclaredMethods()) {
                is(inside + " " + m.getName() + " bears a public name", open.contains(m.getName()), false);
                is(inside + " " + m.getName() + " takes seven at most", m.getParameterCount() <= 7, true);
            }
        }
        for (Method m : face.getDeclaredMethods()) {
            is(m.getName() + " is private and bears a public name", Modifier.isPrivate(m.getModifiers()) && open.contains(m.getName()), false);
        }
    }

    private static void source() throws IOException {
        String text = Files.readString(SOURCE, StandardCharsets.US_ASCII);
        String bare = text.replaceAll("(?s)/\\*.*?\\*/", "").replaceAll("//[^\n]*", "").replaceAll("\"[^\"\n]*\"", "\"\"");
        String[] ruledOut = {"->", "::", "Exact", "\\bfinally\\b", "\\bsynchronized\\b", "\\bassert\\b", "\\bpackage\\b", "\\bcatch\\b",
            "System\\.(?!arraycopy)", "Thread", "\\bRandom\\b", "\\bdouble\\b", "\\bfloat\\b", "\\.format\\(", "\\bvar\\b",
            "\\bhashCode\\b", "\\btoString\\b", "@", "static \\{", "\\[\\]\\[\\]\\["};
        for (String pattern : ruledOut) {
            is("the source has " + pattern, Pattern.compile(pattern).matcher(bare).find(), false);
        }
        Matcher m = Pattern.compile("import ([\\w.]+);").matcher(bare);
        while (m.find()) {
            is("import " + m.group(1), m.group(1).equals("java.util.Arrays") || m.group(1).equals("java.util.NoSuchElementException"), true);
        }
        m = Pattern.compile("(?m)^( {4}| {8})\\w[^;={]*\\) (throws [^{]*)?\\{$(.*?)^\\1\\}$", Pattern.DOTALL).matcher(bare);
        int methods = 0;
        while (m.find()) {
            methods++;
            is("lines of " + m.group().split("\n")[0].trim(), m.group().split("\n").length <= 60, true);
        }
        is("methods are found", methods > 100, true);
    }
}
