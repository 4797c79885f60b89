import java.io.ByteArrayOutputStream;
import java.net.URL;
import java.net.URLClassLoader;
import java.nio.charset.StandardCharsets;
import java.nio.file.Files;
import java.nio.file.Path;
import java.util.ArrayList;
import java.util.List;
import java.util.Set;
import java.util.TreeSet;
import java.util.regex.Matcher;
import java.util.regex.Pattern;
import javax.tools.JavaCompiler;
import javax.tools.ToolProvider;

/** README.md shows code: it must compile, and each answer that stands behind a call must be the one that comes. */
public final class ReadmeTest {
    private static final Pattern ANSWERED =
            Pattern.compile("^(?:int (\\w+) = )?(bureau\\.\\w+\\(.*\\));\\s+// (-?\\d+|true|false)\\b.*$");

    private static List<String> blocks(String page) {
        List<String> found = new ArrayList<>();
        Matcher m = Pattern.compile("(?s)```java\n(.*?)```").matcher(page);
        while (m.find()) {
            found.add(m.group(1));
        }
        return found;
    }

    /** The example's lines, a look at the answer behind each that tells one. */
    private static String looked(String example, int[] answers) {
        StringBuilder code = new StringBuilder();
        for (String line : example.split("\n")) {
            Matcher m = ANSWERED.matcher(line);
            String got = m.matches() ? m.group(2) : null;
            if (got != null && m.group(1) != null) {
                code.append(line).append('\n');
                got = m.group(1);
            }
            if (got == null) {
                code.append(line).append('\n');
            } else {
                answers[0]++;
                code.append("look(\"").append(m.group(2)).append("\", \"").append(m.group(3)).append("\", ")
                        .append(got).append(");\n");
            }
        }
        return code.toString();
    }

    private static String program(String helper, String example, int[] answers) {
        return "public final class Shown {\n" + helper
                + "static void look(String call, String due, Object got) {\n"
                + "if (!due.equals(String.valueOf(got))) { wrong++;\n"
                + "System.out.println(\"README: \" + call + \" answered \" + got + \", due is \" + due); } }\n"
                + "static int wrong;\n"
                + "public static int run() {\n" + looked(example, answers) + "return wrong; }\n}\n";
    }

    private static int run(String code) throws Exception {
        Path folder = Files.createTempDirectory("readme");
        Path source = folder.resolve("Shown.java");
        Files.writeString(source, code);
        JavaCompiler compiler = ToolProvider.getSystemJavaCompiler();
        ByteArrayOutputStream said = new ByteArrayOutputStream();
        int refused = compiler.run(null, said, said, "-cp", System.getProperty("java.class.path"), "-d",
                folder.toString(), source.toString());
        Due.is("refused by the compiler: " + said, 0, refused);
        if (refused != 0) {
            return 0;
        }
        try (URLClassLoader loader = new URLClassLoader(new URL[] {folder.toUri().toURL()},
                ReadmeTest.class.getClassLoader())) {
            return (Integer) loader.loadClass("Shown").getMethod("run").invoke(null);
        } finally {
            for (String left : new String[] {"Shown.class", "Shown.java", ""}) {
                Files.deleteIfExists(folder.resolve(left));
            }
        }
    }

    /** The table names each method of the face, and nothing else. */
    private static void table(String page) {
        Set<String> due = new TreeSet<>();
        for (java.lang.reflect.Method m : RidgeBureau.class.getDeclaredMethods()) {
            if (java.lang.reflect.Modifier.isPublic(m.getModifiers())) {
                due.add(m.getName());
            }
        }
        Set<String> named = new TreeSet<>();
        for (String line : page.split("\n")) {
            Matcher m = Pattern.compile("`(\\w+)`").matcher(line.startsWith("| ") ? line : "");
            while (m.find()) {
                Due.is(m.group(1) + " is named once", true, named.add(m.group(1)));
            }
        }
        Due.is("the table has " + named + ", due are " + due, true, named.equals(due));
    }

    public static void main(String[] args) throws Exception {
        String page = Files.readString(Path.of("README.md"), StandardCharsets.UTF_8);
        List<String> blocks = blocks(page);
        Due.is("blocks of code", 2, blocks.size());
        if (blocks.size() == 2) {
            int[] answers = new int[1];
            Due.is("wrong answers in README.md", 0, run(program(blocks.get(0), blocks.get(1), answers)));
            Due.is("answers are told behind calls", true, answers[0] >= 20);
        }
        table(page);
        try (var tests = Files.list(Path.of("tests"))) {
            tests.map(p -> p.getFileName().toString()).filter(n -> n.endsWith(".java"))
                    .filter(n -> !n.endsWith("Promises.java") && !n.endsWith("Edges.java"))
                    .forEach(n -> Due.is(n + " is told of", true, page.contains("`tests/" + n + "`")));
        }
        Due.end();
    }
}
