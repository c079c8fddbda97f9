import java.io.IOException;
import java.lang.reflect.Method;
import java.lang.reflect.Modifier;
import java.net.URL;
import java.net.URLClassLoader;
import java.nio.file.Files;
import java.nio.file.Path;
import java.util.ArrayList;
import java.util.List;
import java.util.regex.Matcher;
import java.util.regex.Pattern;
import java.util.stream.Stream;
import javax.tools.ToolProvider;

/** README.md's examples answer what they say, and it names every call and every test; run from the project's folder. */
public final class ReadmeTest {
    static final Pattern BLOCK = Pattern.compile("(?ms)^```java\n(.*?)^```$");
    static final Pattern ANSWERED = Pattern.compile("^x\\.(.*);\\s+// (-?\\d+)(:.*)?$");
    static int wrong = 0;
    static int answers = 0;

    /** The examples call this. */
    public static void due(String call, long got, long want) {
        answers++;
        if (got != want) {
            fault(call + " answers " + got + ", and it says " + want);
        }
    }

    static void fault(String what) {
        wrong++;
        System.out.println("README.md: " + what);
    }

    /** All examples one behind the other: they go on with one object. */
    static String program(String readme) {
        StringBuilder b = new StringBuilder("public final class Examples { public static void run() {\n");
        for (Matcher block = BLOCK.matcher(readme); block.find();) {
            for (String line : block.group(1).split("\n")) {
                Matcher m = ANSWERED.matcher(line);
                if (m.matches()) {
                    b.append("ReadmeTest.due(\"" + m.group(1) + "\", x." + m.group(1) + ", " + m.group(2) + "L);\n");
                } else {
                    b.append(line).append('\n');
                }
            }
        }
        return b.append("} }\n").toString();
    }

    static void runExamples(String readme) throws IOException, ReflectiveOperationException {
        Path dir = Files.createTempDirectory("readme");
        Path source = Files.writeString(dir.resolve("Examples.java"), program(readme));
        List<String> args = List.of("-cp", System.getProperty("java.class.path"), "-d", dir.toString(), source.toString());
        if (ToolProvider.getSystemJavaCompiler().run(null, null, null, args.toArray(new String[0])) != 0) {
            fault("its examples do not compile");
        } else {
            try (URLClassLoader loader = new URLClassLoader(new URL[] {dir.toUri().toURL()})) {
                loader.loadClass("Examples").getMethod("run").invoke(null);
            }
        }
        for (String name : new String[] {"Examples.java", "Examples.class", "."}) {
            Files.deleteIfExists(dir.resolve(name).normalize());
        }
    }

    static void namesAll(String readme) throws IOException {
        List<String> names = new ArrayList<>();
        for (Method m : FurrowFair.class.getDeclaredMethods()) {
            if (Modifier.isPublic(m.getModifiers())) {
                names.add(m.getName());
            }
        }
        for (Class<?> c : FurrowFair.class.getDeclaredClasses()) {
            names.add(c.getSimpleName());
        }
        try (Stream<Path> tests = Files.list(Path.of("src/test/java"))) {
            tests.forEach(t -> names.add(t.getFileName().toString().replace(".java", "")));
        }
        for (String name : names) {
            if (!readme.contains("`" + name + "`")) {
                fault("doesn't name " + name);
            }
        }
        for (Matcher m = Pattern.compile("`(\\w+Test)`").matcher(readme); m.find();) {
            if (!names.contains(m.group(1))) {
                fault("names " + m.group(1) + ", and there is none");
            }
        }
    }

    public static void main(String[] args) throws IOException, ReflectiveOperationException {
        String readme = Files.readString(Path.of("README.md"));
        runExamples(readme);
        namesAll(readme);
        if (answers < 20) {
            fault("has only " + answers + " answers in its examples");
        }
        System.out.println(answers + " answers in README.md, " + wrong + " faults");
        if (wrong != 0) {
            System.exit(1);
        }
    }
}
