import java.io.ByteArrayOutputStream;
import java.io.File;
import java.io.IOException;
import java.io.PrintStream;
import java.lang.reflect.Field;
import java.lang.reflect.Method;
import java.lang.reflect.Modifier;
import java.nio.charset.StandardCharsets;
import java.nio.file.Files;
import java.nio.file.Path;
import java.util.Map;
import java.util.regex.Matcher;
import java.util.regex.Pattern;

/** README.md: how to use the class, and how to run its tests. */
public final class ReadmeTest {
    private static final Check CHECK = new Check();

    /** Knows the classes of the example, beside those of the tests. */
    private static final class Loader extends ClassLoader {
        private final Map<String, byte[]> classes;

        Loader(Map<String, byte[]> classes) {
            super(ReadmeTest.class.getClassLoader());
            this.classes = classes;
        }

        @Override
        protected Class<?> findClass(String name) throws ClassNotFoundException {
            byte[] file = classes.get(name);
            if (file == null) {
                throw new ClassNotFoundException(name);
            }
            return defineClass(name, file, 0, file.length);
        }
    }

    public static void main(String[] args) throws Exception {
        String readme = Files.readString(Path.of("README.md"), StandardCharsets.UTF_8);
        calls(readme);
        constants(readme);
        example(readme);
        tests(readme);
        CHECK.done();
    }

    private static void names(String readme, String words) {
        CHECK.due("README.md names " + words, readme.contains(words) ? 1 : 0, 1);
    }

    private static void calls(String readme) {
        CHECK.says("README.md: what each call answers");
        for (Method method : CodeGate.class.getDeclaredMethods()) {
            if (Modifier.isPublic(method.getModifiers())) {
                Matcher row = Pattern.compile("^\\| `" + method.getName() + "\\(([^)]*)\\)` \\|", Pattern.MULTILINE).matcher(readme);
                boolean there = row.find();
                CHECK.due("README.md has a row of " + method.getName(), there ? 1 : 0, 1);
                int told = !there || row.group(1).isEmpty() ? 0 : row.group(1).split(", ").length;
                CHECK.due("parameters of " + method.getName(), told, method.getParameterCount());
            }
        }
    }

    private static void constants(String readme) throws IllegalAccessException {
        CHECK.says("README.md: BAD and FULL");
        for (Field field : CodeGate.class.getDeclaredFields()) {
            if (Modifier.isPublic(field.getModifiers())) {
                names(readme, "`CodeGate." + field.getName() + "` is " + field.getInt(null));
            }
        }
    }

    private static String block(String readme, String kind) {
        Matcher block = Pattern.compile("^```" + kind + "\n(.*?)^```$", Pattern.MULTILINE | Pattern.DOTALL).matcher(readme);
        return block.find() ? block.group(1) : "";
    }

    private static void example(String readme) throws Exception {
        CHECK.says("README.md: how a FILE is fed and judged");
        String path = System.getProperty("java.class.path");
        Map<String, byte[]> classes = Compiled.classes("Example", block(readme, "java"), "-cp", path);
        Method main = new Loader(classes).loadClass("Example").getMethod("main", String[].class);
        PrintStream usual = System.out;
        ByteArrayOutputStream printed = new ByteArrayOutputStream();
        System.setOut(new PrintStream(printed, true, StandardCharsets.UTF_8));
        try {
            main.invoke(null, (Object) new String[0]);
        } finally {
            System.setOut(usual);
        }
        String[] got = printed.toString(StandardCharsets.UTF_8).split("\\R");
        String[] due = block(readme, "text").split("\\R");
        CHECK.due("lines that the example prints", got.length, due.length);
        for (int i = 0; i < Math.min(got.length, due.length); i++) {
            CHECK.due("the example prints \"" + got[i] + "\", as README.md says", got[i].equals(due[i]) ? 1 : 0, 1);
        }
    }

    private static void tests(String readme) throws IOException {
        CHECK.says("README.md: how to run its tests");
        names(readme, "`.ci/run`");
        CHECK.due(".ci/run can be run", new File(".ci/run").canExecute() ? 1 : 0, 1);
        for (File file : new File("src/test/java").listFiles()) {
            names(readme, "`" + file.getName().replace(".java", "") + "`");
        }
        Matcher row = Pattern.compile("^\\| `(\\w+Test)` \\|", Pattern.MULTILINE).matcher(readme);
        while (row.find()) {
            CHECK.due("there is " + row.group(1), new File("src/test/java", row.group(1) + ".java").isFile() ? 1 : 0, 1);
        }
    }
}
