import java.lang.reflect.Constructor;
import java.lang.reflect.Field;
import java.lang.reflect.Method;
import java.lang.reflect.Modifier;
import java.nio.charset.StandardCharsets;
import java.nio.file.Files;
import java.nio.file.Path;
import java.util.ArrayList;
import java.util.Arrays;
import java.util.List;
import java.util.Set;
import java.util.TreeSet;
import java.util.regex.Matcher;
import java.util.regex.Pattern;

/** The class has the document's face and nothing else to be seen, and keeps to what can be told of LANGUAGE.md. */
public final class FaceTest {
    private static int wrong;

    private static void must(boolean holds, String what) {
        if (!holds) {
            wrong++;
            System.out.println(what);
        }
    }

    private static String line(Method m) {
        List<String> types = new ArrayList<>();
        Arrays.stream(m.getParameterTypes()).forEach(t -> types.add(t.getSimpleName()));
        List<String> thrown = new ArrayList<>();
        Arrays.stream(m.getExceptionTypes()).forEach(t -> thrown.add(t.getSimpleName()));
        String line = m.getReturnType().getSimpleName() + " " + m.getName() + "(" + String.join(", ", types) + ")";
        return thrown.isEmpty() ? line : line + " throws " + String.join(", ", thrown);
    }

    /** The lines of the document's code block, without the names of parameters. */
    private static Set<String> due() throws Exception {
        String text = Files.readString(Path.of("../shared/DOC.md"));
        String block = text.substring(text.indexOf("public final class RidgeBureau {"), text.indexOf("## Terms"));
        Set<String> lines = new TreeSet<>();
        Matcher m = Pattern.compile("public (\\w+) (\\w+)\\((.*?)\\)( throws .*)?;").matcher(block);
        while (m.find()) {
            String types = m.group(3).replaceAll("(\\w+) \\w+", "$1");
            lines.add(m.group(1) + " " + m.group(2) + "(" + types + ")" + (m.group(4) == null ? "" : m.group(4)));
        }
        return lines;
    }

    private static void face() throws Exception {
        Set<String> got = new TreeSet<>();
        Set<String> open = new TreeSet<>();
        Set<String> closed = new TreeSet<>();
        for (Method m : RidgeBureau.class.getDeclaredMethods()) {
            if (Modifier.isPublic(m.getModifiers())) {
                got.add(line(m));
                open.add(m.getName());
            } else {
                must(Modifier.isPrivate(m.getModifiers()) || m.isSynthetic(), m + " is not private");
                closed.add(m.getName());
            }
            must(m.getParameterCount() <= 7, m + " takes more than seven");
        }
        Set<String> due = due();
        must(due.size() == 43, "the document tells " + due.size() + " methods");
        must(got.equals(due), "the face is " + got + ", due is " + due);
        closed.retainAll(open);
        must(closed.isEmpty(), "private methods bear names of public ones: " + closed);
        must(Modifier.isFinal(RidgeBureau.class.getModifiers()), "the class is not final");
        Constructor<?>[] made = RidgeBureau.class.getDeclaredConstructors();
        must(made.length == 1 && Modifier.isPublic(made[0].getModifiers()) && made[0].getParameterCount() == 0,
                "the constructor is another one");
    }

    private static void fields(Class<?> its) {
        int own = 0;
        for (Field f : its.getDeclaredFields()) {
            boolean isPublic = f.getName().equals("NONE");
            if (its == RidgeBureau.class) {
                must(isPublic ? Modifier.isPublic(f.getModifiers()) : Modifier.isPrivate(f.getModifiers()), "" + f);
            }
            must(!Modifier.isStatic(f.getModifiers()) || Modifier.isFinal(f.getModifiers()), f + " is not final");
            own += Modifier.isStatic(f.getModifiers()) ? 0 : 1;
        }
        must(own <= 20, its + " has " + own + " fields");
    }

    private static void source() throws Exception {
        String text = Files.readString(Path.of("src/main/java/RidgeBureau.java"), StandardCharsets.ISO_8859_1);
        must(text.chars().allMatch(c -> c == '\n' || c >= 32 && c < 127), "a sign that is not plain");
        String code = text.replaceAll("(?s)/\\*.*?\\*/", " ").replaceAll("//[^\n]*", " ").replaceAll("\"[^\"]*\"", "\"\"");
        String[] banned = {"->", "::", "\\btry\\b", "\\bcatch\\b", "\\bfinally\\b", "\\bsynchronized\\b", "\\bassert\\b",
            "\\binstanceof\\b", "\"\" *\\+", "\\+ *\"\"", "\\bSystem\\.(?!arraycopy)", "\\bpackage\\b", "\\brecord\\b",
            "\\b(float|double)\\b", "\\bvolatile\\b", "\\bprotected\\b", "\\.equals\\(", "\\bvar\\b", "\\bObject\\b",
            "\\.getMessage", "\\bgoto\\b", "\\bstatic *\\{"};
        for (String word : banned) {
            must(!Pattern.compile(word).matcher(code).find(), "the class has " + word);
        }
        Matcher imports = Pattern.compile("import ([\\w.]+);").matcher(code);
        while (imports.find()) {
            must(imports.group(1).equals("java.util.NoSuchElementException"), "it imports " + imports.group(1));
        }
        methods(text.split("\n"));
    }

    /** A method ends at the first closing brace that stands as far in as its head. */
    private static void methods(String[] lines) {
        Pattern head = Pattern.compile("^( {4}| {8})[\\w\\[\\]][\\w\\[\\] ]* \\w+\\(.*[{,)]$");
        for (int i = 0; i < lines.length; i++) {
            Matcher m = head.matcher(lines[i]);
            if (!m.matches()) {
                continue;
            }
            int end = i;
            while (end < lines.length && !lines[end].equals(m.group(1) + "}")) {
                end++;
            }
            must(end - i < 60, "too long, from line " + (i + 1));
        }
    }

    public static void main(String[] args) throws Exception {
        face();
        Class<?>[] inside = RidgeBureau.class.getDeclaredClasses();
        must(inside.length <= 11, "it has " + inside.length + " classes inside");
        fields(RidgeBureau.class);
        for (Class<?> c : inside) {
            must(Modifier.isStatic(c.getModifiers()) && !Modifier.isPublic(c.getModifiers()), c + " can be seen");
            fields(c);
        }
        source();
        System.out.println(wrong == 0 ? "the face is as due" : wrong + " things are not as due");
        if (wrong != 0) {
            System.exit(1);
        }
    }
}
