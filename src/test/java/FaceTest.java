import java.io.IOException;
import java.lang.reflect.Constructor;
import java.lang.reflect.Field;
import java.lang.reflect.Method;
import java.lang.reflect.Modifier;
import java.nio.file.Files;
import java.nio.file.Path;
import java.util.Arrays;
import java.util.List;
import java.util.Set;
import java.util.TreeSet;
import java.util.regex.Matcher;
import java.util.regex.Pattern;
import java.util.stream.Collectors;

/** The face of the class, and what of LANGUAGE.md can be seen from outside or by a glance at the source. */
final class FaceTest {
    private static final String FACE = "int status(); long top(); long bottom(); boolean tray(int int int); boolean write(int int long); "
            + "long read(int int); boolean pour(int int int int int); int feed(int int int int int); int duchy(int); int years(int); "
            + "int fault(int); int many(int); int cell(int int); int votes(int int); int traveller(int int); int telling(int int); "
            + "int copyChart(int); int hear(int); int forget(int); int tell(int int int int); int come(int); int change(int int); "
            + "int trust(int int); int moor(int); boolean rule(int); boolean oddsThat(int int); int likeliest(int); int ask(); "
            + "int liars(); int liarSet(); int clashes(); int way(int); int wayLong(int); int wayAt(int int); boolean comesIn(int); "
            + "int sail(int); int plan(int); int planSet(int); int game(int); int moveOf(int); boolean swear(int int); "
            + "boolean share(int); int live(int); int lived(int); boolean mean(int int); int mark(); int back()";

    private static int wrong;

    public static void main(String[] args) throws IOException {
        face();
        members();
        source();
        System.out.println("FaceTest: " + wrong + " wrong");
        if (wrong != 0) {
            System.exit(1);
        }
    }

    private static void wrong(String what) {
        wrong++;
        System.out.println("FaceTest: " + what);
    }

    private static void face() {
        Set<String> due = new TreeSet<>(List.of(FACE.split("; ")));
        Set<String> got = new TreeSet<>();
        for (Method m : SighChart.class.getDeclaredMethods()) {
            if (!Modifier.isPrivate(m.getModifiers())) {
                String types = Arrays.stream(m.getParameterTypes()).map(Class::getName).collect(Collectors.joining(" "));
                got.add(m.getReturnType().getName() + " " + m.getName() + "(" + types + ")");
                if (!Modifier.isPublic(m.getModifiers())) {
                    wrong(m + " is neither public nor private");
                }
            }
        }
        if (!due.equals(got)) {
            wrong("the face is " + got + ", due is " + due);
        }
        if (SighChart.NONE != -1) {
            wrong("NONE is " + SighChart.NONE);
        }
        Constructor<?>[] constructors = SighChart.class.getDeclaredConstructors();
        if (constructors.length != 1 || !Modifier.isPublic(constructors[0].getModifiers()) || constructors[0].getParameterCount() != 0) {
            wrong("the constructors are " + Arrays.toString(constructors));
        }
    }

    private static void members() {
        Set<String> publicNames = Arrays.stream(SighChart.class.getDeclaredMethods()).filter(m -> Modifier.isPublic(m.getModifiers()))
                .map(Method::getName).collect(Collectors.toSet());
        for (Field f : SighChart.class.getDeclaredFields()) {
            if (!Modifier.isPrivate(f.getModifiers()) && !f.getName().equals("NONE")) {
                wrong(f + " is not private");
            }
        }
        List<Class<?>> all = new java.util.ArrayList<>(List.of(SighChart.class.getDeclaredClasses()));
        for (Class<?> inner : all) {
            if (!Modifier.isStatic(inner.getModifiers())) {
                wrong(inner + " is not static");
            }
            for (Method m : inner.getDeclaredMethods()) {
                if (publicNames.contains(m.getName())) {
                    wrong(m + " bears the name of a public method");
                }
            }
        }
        all.add(SighChart.class);
        for (Class<?> one : all) {
            for (Method m : one.getDeclaredMethods()) {
                if (Modifier.isPrivate(m.getModifiers()) && publicNames.contains(m.getName())) {
                    wrong(m + " bears the name of a public method");
                }
                if (m.getParameterCount() > 7) {
                    wrong(m + " takes more than seven parameters");
                }
            }
            for (Field f : one.getDeclaredFields()) {
                if (Modifier.isStatic(f.getModifiers()) && !Modifier.isFinal(f.getModifiers())) {
                    wrong(f + " is static and not final");
                }
            }
        }
    }

    private static void source() throws IOException {
        String text = Files.readString(Path.of("src/main/java/SighChart.java")).replaceAll("(?s)/\\*.*?\\*/|//[^\n]*", "");
        Matcher m = Pattern.compile("\\b(throw|throws|try|catch|assert|synchronized|yield|package)\\b|->|::|Exact\\(").matcher(text);
        while (m.find()) {
            wrong("the source has " + m.group());
        }
        Matcher imports = Pattern.compile("import ([^;]*);").matcher(text);
        while (imports.find()) {
            if (!Set.of("java.util.Arrays", "java.util.ArrayList", "java.util.List").contains(imports.group(1))) {
                wrong("the source imports " + imports.group(1));
            }
        }
    }
}
