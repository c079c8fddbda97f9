import java.io.File;
import java.io.IOException;
import java.io.InputStream;
import java.io.OutputStream;
import java.nio.file.Files;
import java.nio.file.Path;
import java.util.ArrayList;
import java.util.Comparator;
import java.util.List;
import java.util.TreeMap;
import java.util.TreeSet;
import java.util.concurrent.ExecutorService;
import java.util.concurrent.Executors;
import java.util.concurrent.Future;
import java.util.concurrent.TimeUnit;
import java.util.regex.Matcher;
import java.util.regex.Pattern;
import java.util.stream.Stream;
import javax.tools.ToolProvider;

/**
 * Puts one fault at a time into the class, and tells which of them no test finds. Not run by .ci/run.
 * By hand, from the project's folder: java src/test/tools/Faults.java TermsBoundaryTest PromiseBoundaryTest
 */
public final class Faults {
    static final Path SOURCE = Path.of("src/main/java/FurrowFair.java");
    static final String[][] SWAPS = {
        {" < ", " <= "}, {" <= ", " < "}, {" > ", " >= "}, {" >= ", " > "}, {" == ", " != "}, {" != ", " == "},
        {" && ", " || "}, {" \\|\\| ", " && "}, {" \\+ ", " - "}, {" - ", " + "}, {" \\* ", " + "}, {"\\+\\+;", "--;"},
        {"(?<=[ (])!(?=[a-z])", ""}, {"(?<=return )NO_SUCH", "CANNOT_BE"}, {"(?<=return )CANNOT_BE", "NO_SUCH"},
        {"(?<=return )NONE", "NO_SUCH"}, {"(?<=return )NOTHING_HELD", "OTHER_KIND"}, {"(?<=return )OTHER_KIND", "NO_PLACE"},
        {"(?<=return )NO_FRACTION", "0"}, {"(?<=return )true", "false"}, {"(?<=return )false", "true"},
        {"Math\\.min", "Math.max"}, {"Math\\.max", "Math.min"}, {"worth\\[", "away["}, {"away\\[", "worth["},
    };
    static final Pattern NUMBER = Pattern.compile("(?<![\\w.\"])\\d+(?![\\w.\"])");
    /** A line that only does something, and can be left out. */
    static final Pattern STATEMENT = Pattern.compile("^\\s+[\\w.\\[\\]]+(\\(.*\\)| [|+-]?= .*|\\+\\+);$");
    static Path built;

    record Fault(int line, String was, String is) {
    }

    static List<Fault> faultsOf(List<String> lines) {
        List<Fault> faults = new ArrayList<>();
        for (int i = 0; i < lines.size(); i++) {
            String line = lines.get(i);
            String bare = line.strip();
            if (bare.startsWith("/") || bare.startsWith("*") || bare.startsWith("import")) {
                continue;
            }
            for (String[] swap : SWAPS) {
                for (Matcher m = Pattern.compile(swap[0]).matcher(line); m.find();) {
                    faults.add(new Fault(i, line, line.substring(0, m.start()) + swap[1] + line.substring(m.end())));
                }
            }
            for (Matcher m = NUMBER.matcher(line); m.find();) {
                long n = Long.parseLong(m.group());
                for (long other = n - 1; other <= n + 1; other += 2) {
                    faults.add(new Fault(i, line, line.substring(0, m.start()) + other + line.substring(m.end())));
                }
            }
            if (STATEMENT.matcher(line).matches() && !line.contains("return") && !line.contains("final")) {
                faults.add(new Fault(i, line, ""));
            }
        }
        return faults;
    }

    /** Which tests fail, and which sentences in them; nothing if none does, null if the fault does not compile. */
    static TreeSet<String> found(List<String> lines, Fault fault, int number, String[] tests) throws Exception {
        Path dir = Files.createTempDirectory("fault" + number + "-");
        List<String> with = new ArrayList<>(lines);
        with.set(fault.line(), fault.is());
        Path source = dir.resolve("FurrowFair.java");
        Files.write(source, with);
        TreeSet<String> told = new TreeSet<>();
        if (ToolProvider.getSystemJavaCompiler().run(InputStream.nullInputStream(), OutputStream.nullOutputStream(),
                OutputStream.nullOutputStream(), "-d", dir.toString(), source.toString()) != 0) {
            told = null;
        }
        for (String test : tests) {
            if (told != null) {
                run(dir, test, told);
            }
        }
        try (Stream<Path> files = Files.walk(dir)) {
            for (Path p : files.sorted(Comparator.reverseOrder()).toList()) {
                Files.delete(p);
            }
        }
        return told;
    }

    static void run(Path dir, String test, TreeSet<String> told) throws IOException, InterruptedException {
        Path out = dir.resolve("out.txt");
        Process p = new ProcessBuilder("java", "-XX:TieredStopAtLevel=1", "-cp", dir + File.pathSeparator + built, test)
                .redirectErrorStream(true).redirectOutput(out.toFile()).start();
        if (!p.waitFor(60, TimeUnit.SECONDS)) {
            p.destroyForcibly().waitFor();
            told.add(test + " does not end");
        } else if (p.exitValue() != 0) {
            told.add(test + " fails");
            for (String line : Files.readAllLines(out)) {
                if (line.startsWith("[")) {
                    told.add(line.substring(0, line.indexOf(']') + 1));
                }
            }
        }
    }

    /** The tests are compiled once, and run with each class that has a fault. */
    static void buildTests(String[] tests) throws IOException {
        built = Files.createTempDirectory("faults");
        List<String> args = new ArrayList<>(List.of("-d", built.toString(), "-sourcepath", "src/test/help", SOURCE.toString()));
        for (String test : tests) {
            args.add("src/test/java/" + test + ".java");
        }
        if (ToolProvider.getSystemJavaCompiler().run(null, null, null, args.toArray(new String[0])) != 0) {
            throw new IOException("the tests do not compile");
        }
        try (Stream<Path> files = Files.list(built)) {
            for (Path p : files.filter(f -> f.getFileName().toString().startsWith("FurrowFair")).toList()) {
                Files.delete(p);
            }
        }
    }

    public static void main(String[] tests) throws Exception {
        buildTests(tests);
        List<String> lines = Files.readAllLines(SOURCE);
        List<Fault> faults = faultsOf(lines);
        ExecutorService pool = Executors.newFixedThreadPool(Runtime.getRuntime().availableProcessors());
        List<Future<TreeSet<String>>> answers = new ArrayList<>();
        for (int i = 0; i < faults.size(); i++) {
            int number = i;
            answers.add(pool.submit(() -> found(lines, faults.get(number), number, tests)));
        }
        TreeMap<String, Integer> counts = new TreeMap<>();
        TreeMap<String, Integer> company = new TreeMap<>();
        int compiled = 0;
        int missed = 0;
        for (int i = 0; i < faults.size(); i++) {
            TreeSet<String> told = answers.get(i).get();
            Fault f = faults.get(i);
            compiled += told == null ? 0 : 1;
            if (told != null && told.isEmpty()) {
                missed++;
                System.out.println("missed: " + (f.line() + 1) + ": " + f.was().strip() + "\n     as: " + f.is().strip());
            }
            for (String t : told == null ? new TreeSet<String>() : told) {
                counts.merge(t, 1, Integer::sum);
                company.merge(t, told.size(), Math::min);
            }
        }
        pool.shutdown();
        // A fault in the reading fails all sentences: who fails in small company only tells that its own is looked at.
        counts.forEach((k, v) -> System.out.println("found " + v + " times, among " + company.get(k) + " at the least, by " + k));
        System.out.println(compiled + " faults, " + missed + " missed");
    }
}
