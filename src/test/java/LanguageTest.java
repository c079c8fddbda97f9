import java.io.IOException;
import java.nio.file.Files;
import java.nio.file.Path;
import java.util.List;
import java.util.regex.Matcher;
import java.util.regex.Pattern;

/** Looks in the source for what LANGUAGE.md does not leave; run from the project's folder. */
public final class LanguageTest {
    static final String[] NEVER = {
        "->", "::", "\\bfinally\\b", "\\bsynchronized\\b", "\\bassert\\b", "\\bgetMessage\\b", "static \\{", "@\\w", "\\bpackage \\w",
        "Exact\\b", "\\bvar\\b", "\\bprotected\\b", "\\bThrowable\\b", "\\bException\\b", "\\bNullPointerException\\b",
        "\\bArrayIndexOutOfBoundsException\\b", "\\bClassCastException\\b", "\\bNegativeArraySizeException\\b",
        "\\bArithmeticException\\b", "\\bRuntimeException\\b", "\\bSystem\\.(?!arraycopy)", "\\bHashMap\\b", "\\bOptional\\b",
        "\\bequals\\(", "\\bhashCode\\b", "\\btoString\\b", "\\bthis::", "\\bObject\\b", "\"\\s*\\+", "\\+\\s*\"",
        "\\bInteger\\.(?!bitCount)", "\\bMath\\.(?!(min|max|abs)\\b)", "\\bwhile \\(true\\)", "for \\(;;\\)",
    };
    static int wrong = 0;

    static void fault(int line, String what) {
        wrong++;
        System.out.println("FurrowFair.java:" + (line + 1) + ": " + what);
    }

    static void lookForWords(List<String> lines) {
        for (int i = 0; i < lines.size(); i++) {
            String line = lines.get(i);
            for (String never : NEVER) {
                if (Pattern.compile(never).matcher(line).find()) {
                    fault(i, "has " + never);
                }
            }
            if (line.startsWith("import ") && !line.equals("import java.util.Arrays;")) {
                fault(i, "imports what isn't left");
            }
            if (line.contains("static") && !line.contains("final") && !line.contains("(") && !line.contains("class")) {
                fault(i, "has other static state");
            }
            if (line.chars().anyMatch(c -> c > 126 || c < 32)) {
                fault(i, "has a sign out of range");
            }
        }
    }

    static void lookAtMethods(List<String> lines) {
        Pattern head = Pattern.compile("^( {4}| {8})(?! )[\\w\\[\\]. ]+\\(([^)]*)\\)[\\w ,]* \\{$");
        int begun = -1;
        String indent = "";
        for (int i = 0; i < lines.size(); i++) {
            Matcher m = head.matcher(lines.get(i));
            if (begun < 0 && m.matches()) {
                begun = i;
                indent = m.group(1);
                if (m.group(2).split(",").length > 7) {
                    fault(i, "takes too many parameters");
                }
            } else if (begun >= 0 && lines.get(i).equals(indent + "}")) {
                if (i - begun > 60) {
                    fault(begun, "is too long");
                }
                begun = -1;
            }
        }
    }

    public static void main(String[] args) throws IOException {
        List<String> lines = Files.readAllLines(Path.of("src/main/java/FurrowFair.java"));
        lookForWords(lines);
        lookAtMethods(lines);
        long classes = lines.stream().filter(l -> l.matches("^ *(public |static |final |abstract )*(class|interface|enum|record) .*")).count();
        if (classes > 12) {
            fault(0, classes + " classes are too many");
        }
        System.out.println(wrong == 0 ? "the source keeps to the language" : wrong + " faults");
        if (wrong != 0) {
            System.exit(1);
        }
    }
}
