import java.util.regex.Matcher;
import java.util.regex.Pattern;

/** Compares the reading of a market with a second reading by regular expressions, on texts with made faults. */
public final class ReadingTest {
    static final String NUMBER = "(0|[1-9][0-9]{0,2})";
    static final Pattern FORM = Pattern.compile("(s" + NUMBER + " " + NUMBER + " " + NUMBER + ";|m" + NUMBER
            + "( " + NUMBER + ")*;|t" + NUMBER + " " + NUMBER + ";)+");
    static final String SIGNS = "smt; 0123456789";
    static long seed = 44;
    static int wrong = 0;

    static int below(int n) {
        seed = seed * 6364136223846793005L + 1442695040888963407L;
        return (int) ((seed >>> 33) % n);
    }

    static int answerOf(String text) {
        for (int i = 1; i <= text.length(); i++) {
            Matcher m = FORM.matcher(text.substring(0, i));
            if (!m.matches() && !m.hitEnd()) {
                return -1000 - (i - 1);
            }
        }
        if (!FORM.matcher(text).matches()) {
            return -1000 - text.length();
        }
        int sorts = 0;
        int marks = 0;
        int chances = 0;
        int place = 0;
        String[] parts = text.split(";");
        for (String part : parts) {
            String[] n = part.substring(1).split(" ");
            int first = Integer.parseInt(n[0]);
            boolean good;
            if (part.charAt(0) == 's') {
                good = sorts < 4 && marks == 0 && first >= 1 && first <= 100;
                sorts++;
                chances += first;
            } else if (part.charAt(0) == 'm') {
                good = marks < 4 && first <= 99 && n.length == sorts + 1;
                marks++;
            } else {
                good = first < marks && Integer.parseInt(n[1]) < sorts;
            }
            if (!good) {
                return -2000 - place;
            }
            place += part.length() + 1;
        }
        return chances != 100 || marks == 0 ? -3000 : parts.length;
    }

    static String number(int most) {
        return Integer.toString(below(most + 1));
    }

    static String madeText() {
        StringBuilder b = new StringBuilder();
        int sorts = 1 + below(below(6) == 0 ? 5 : 3);
        int left = 100;
        for (int s = 0; s < sorts; s++) {
            int chance = s == sorts - 1 ? left : Math.max(below(20) == 0 ? 0 : 1, below(Math.max(1, left - sorts)));
            left -= chance;
            b.append("s").append(chance).append(" ").append(number(999)).append(" ").append(number(99)).append(";");
        }
        int marks = below(8) == 0 ? below(6) : 1 + below(3);
        for (int m = 0; m < marks; m++) {
            b.append("m").append(below(25) == 0 ? number(200) : number(99));
            int costs = below(25) == 0 ? below(6) : sorts;
            for (int s = 0; s < costs; s++) {
                b.append(" ").append(number(99));
            }
            b.append(";");
            if (below(3) == 0) {
                b.append("t").append(below(marks)).append(" ").append(below(12) == 0 ? below(5) : below(sorts)).append(";");
            }
        }
        int faults = below(2) * below(3);
        for (int f = 0; f < faults && b.length() > 0; f++) {
            int at = below(b.length());
            char sign = below(20) == 0 ? (char) below(256) : SIGNS.charAt(below(SIGNS.length()));
            switch (below(4)) {
                case 0:
                    b.setCharAt(at, sign);
                    break;
                case 1:
                    b.insert(at, sign);
                    break;
                case 2:
                    b.deleteCharAt(at);
                    break;
                default:
                    b.setLength(at);
                    break;
            }
        }
        b.setLength(Math.min(120, b.length()));
        return b.toString();
    }

    public static void main(String[] args) {
        int[] seen = new int[4];
        for (int i = 0; i < 20000; i++) {
            String text = madeText();
            FurrowFair x = new FurrowFair();
            x.row(3, 0, text.length());
            for (int c = 0; c < text.length(); c++) {
                x.put(3, c, text.charAt(c));
            }
            int got = x.market(3);
            int want = answerOf(text);
            seen[want > 0 ? 0 : -want / 1000]++;
            if ((got != want || (x.count(1) > 0) != (want > 0)) && wrong++ < 20) {
                System.out.println("market of '" + text + "' answered " + got + ", due is " + want);
            }
        }
        for (int kind = 0; kind < 4; kind++) {
            if (seen[kind] < 200) {
                wrong++;
                System.out.println("only " + seen[kind] + " texts of kind " + kind);
            }
        }
        System.out.println(wrong == 0 ? "all texts are read as due" : wrong + " texts are not read as due");
        if (wrong != 0) {
            System.exit(1);
        }
    }
}
