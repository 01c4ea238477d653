import java.io.IOException;
import java.io.StringWriter;
import java.net.URI;
import java.net.URL;
import java.net.URLClassLoader;
import java.nio.file.Files;
import java.nio.file.Path;
import java.util.ArrayList;
import java.util.Comparator;
import java.util.List;
import java.util.Set;
import java.util.TreeSet;
import java.util.regex.Matcher;
import java.util.regex.Pattern;
import java.util.stream.Stream;
import javax.tools.JavaCompiler;
import javax.tools.JavaFileObject;
import javax.tools.SimpleJavaFileObject;
import javax.tools.ToolProvider;

/** README.md: its Java lines are compiled and run as one program, each answer behind // is due; the tests it names are those there are. */
public final class ReadmeTest {
    private static final Pattern BLOCK = Pattern.compile("(?s)```java\n(.*?)```");
    /** A call of x, perhaps over several lines, and the answer behind it. */
    private static final Pattern ANSWERED = Pattern.compile("(?s)^(x\\..*?);\\s*// (-?\\d+|true|false)\\b[^\n]*$");

    private static int asked;
    private static int wrong;

    public static void main(String[] args) throws Exception {
        String page = Files.readString(Path.of("README.md"));
        runLines(page);
        namesOfTests(page);
        System.out.println("ReadmeTest: " + asked + " asked, " + wrong + " wrong");
        if (wrong != 0 || asked == 0) {
            System.exit(1);
        }
    }

    /** Called by the program that is made of the page. */
    public static void due(String call, Object got, Object want) {
        asked++;
        if (!String.valueOf(got).equals(String.valueOf(want))) {
            wrong++;
            System.out.println("README.md: " + call + " answered " + got + ", the page says " + want);
        }
    }

    private static void runLines(String page) throws Exception {
        StringBuilder members = new StringBuilder();
        StringBuilder lines = new StringBuilder();
        Matcher block = BLOCK.matcher(page);
        while (block.find()) {
            String code = block.group(1);
            if (code.startsWith("static ")) {
                members.append(code);
            } else {
                statements(code).forEach(s -> lines.append(asCheck(s)).append('\n'));
            }
        }
        Path out = Files.createTempDirectory("readme");
        try {
            compile("public final class ReadmeLines {\n" + members + "public static void run() {\n" + lines + "}\n}\n", out);
            try (URLClassLoader loader = new URLClassLoader(new URL[] {out.toUri().toURL()}, ReadmeTest.class.getClassLoader())) {
                loader.loadClass("ReadmeLines").getMethod("run").invoke(null);
            }
        } finally {
            remove(out);
        }
    }

    /** A statement begins at a line without an indent. */
    private static List<String> statements(String code) {
        List<String> all = new ArrayList<>();
        for (String line : code.split("\n")) {
            if (line.startsWith(" ") && !all.isEmpty()) {
                all.set(all.size() - 1, all.get(all.size() - 1) + "\n" + line);
            } else {
                all.add(line);
            }
        }
        return all;
    }

    private static String asCheck(String statement) {
        Matcher m = ANSWERED.matcher(statement);
        if (!m.matches()) {
            if (statement.startsWith("x.")) {
                due("what is behind " + statement, "no answer", "an answer");
            }
            return statement;
        }
        String name = m.group(1).replaceAll("\\s+", " ").replace("\\", "\\\\").replace("\"", "\\\"");
        return "ReadmeTest.due(\"" + name + "\", " + m.group(1) + ", " + m.group(2) + ");";
    }

    private static void compile(String source, Path out) {
        JavaCompiler compiler = ToolProvider.getSystemJavaCompiler();
        JavaFileObject file = new SimpleJavaFileObject(URI.create("string:///ReadmeLines.java"), JavaFileObject.Kind.SOURCE) {
            @Override
            public CharSequence getCharContent(boolean ignoreEncodingErrors) {
                return source;
            }
        };
        StringWriter said = new StringWriter();
        List<String> options = List.of("-d", out.toString(), "-cp", System.getProperty("java.class.path"));
        if (!compiler.getTask(said, null, null, options, null, List.of(file)).call()) {
            System.out.println("README.md: its lines do not compile:\n" + said);
            System.exit(1);
        }
    }

    private static void remove(Path directory) throws IOException {
        try (Stream<Path> files = Files.walk(directory)) {
            for (Path file : files.sorted(Comparator.reverseOrder()).toList()) {
                Files.delete(file);
            }
        }
    }

    private static void namesOfTests(String page) throws IOException {
        Set<String> named = new TreeSet<>();
        Matcher m = Pattern.compile("`(\\w+Test)`").matcher(page);
        while (m.find()) {
            named.add(m.group(1));
        }
        Set<String> there = new TreeSet<>();
        try (Stream<Path> files = Files.list(Path.of("src/test/java"))) {
            files.map(f -> f.getFileName().toString()).filter(f -> f.endsWith("Test.java")).forEach(f -> there.add(f.replace(".java", "")));
        }
        due("the tests named", named, there);
    }
}
