import java.io.IOException;
import java.nio.file.Files;
import java.nio.file.Path;
import java.util.List;
import java.util.regex.Pattern;

/** Looks in the source for signs and words that LANGUAGE.md does not leave; run from the project's folder. */
public final class LanguageTest {
    static final String[] NEVER = {
        "->", "::", "\\bfinally\\b", "\\bsynchronized\\b", "\\bassert\\b", "\\bgetMessage\\b", "static \\{", "@\\w", "\\bpackage \\w",
        "Exact\\b", "\\bvar\\b", "\\bprotected\\b", "\\bThrowable\\b", "\\bException\\b", "\\bNullPointerException\\b",
        "\\bArrayIndexOutOfBoundsException\\b", "\\bClassCastException\\b", "\\bNegativeArraySizeException\\b",
        "\\bArithmeticException\\b", "\\bRuntimeException\\b", "\\bSystem\\.(?!arraycopy)", "\\bHashMap\\b", "\\bOptional\\b",
        "\\bequals\\(", "\\bhashCode\\b", "\\btoString\\b", "\\bthis::", "\\bObject\\b", "\"\\s*\\+", "\\+\\s*\"",
        "\\bInteger\\.(?!bitCount)", "\\bMath\\.(?!(min|max|abs)\\b)", "\\bwhile \\(true\\)", "for \\(;;\\)",
    };
    static int wrong = 0;

    static void fault(int line, String what) {
        wrong++;
        System.out.println("FurrowFair.java:" + (line + 1) + ": " + what);
    }

    static void lookForWords(List<String> lines) {
        for (int i = 0; i < lines.size(); i++) {
            String line = lines.get(i);
            for (String never : NEVER) {
                if (Pattern.compile(never).matcher(line).find()) {
                    fault(i, "has " + never);
                }
            }
            if (line.startsWith("import ") && !line.equals("import java.util.Arrays;")) {
                fault(i, "imports what isn't left");
            }
            if (line.contains("static") && !line.contains("final") && !line.contains("(") && !line.contains("class")) {
                fault(i, "has other static state");
            }
            if (line.chars().anyMatch(c -> c > 126 || c < 32)) {
                fault(i, "has a sign out of range");
            }
        }
    }

    public static void main(String[] args) throws IOException {
        List<String> lines = Files.readAllLines(Path.of("src/main/java/FurrowFair.java"));
        lookForWords(lines);
        System.out.println(wrong == 0 ? "the source has no sign and no word that isn't left" : wrong + " faults");
        if (wrong != 0) {
            System.exit(1);
        }
    }
}
