import java.io.IOException;
import java.nio.file.Files;
import java.nio.file.Path;
import java.util.HashMap;
import java.util.Map;
import java.util.TreeSet;
import java.util.regex.Matcher;
import java.util.regex.Pattern;

/** Takes sentences of the document one by one, each with a look of its own at what it says. */
class Sentences {
    static final long NOF = -4611686018427387904L;
    static final int LOW = Integer.MIN_VALUE;
    static final int HIGH = Integer.MAX_VALUE;

    /** Two sorts; mark 0 is free, mark 1 costs the better sort 80. Fits 0 and 5 are sure. */
    static final String PAIR = "s50 100 0;s50 200 0;m0 0 0;m0 150 80;";
    /** One sort and one mark. */
    static final String ONE = "s100 50 20;m7 9;";
    /** As many sorts and marks as there can be. Fits 0, 156, 300 and 430 (each sort its own mark) are sure. */
    static final String FULL = "s10 10 1;s20 20 2;s30 30 3;s40 40 4;m0 0 0 0 0;m0 11 9 9 9;m0 22 20 18 18;m0 33 31 29 27;";
    /** Three sorts. Fits 0 and 50 (the best in mark 2) are sure; a second thought fells the former. */
    static final String THREE = "s30 9 0;s30 19 0;s40 59 5;m0 0 0 0;m0 30 20 10;m0 60 45 20;";
    /** Told the better sort at a free mark with 60 for who stays away: no fit is sure. */
    static final String RESTLESS = "s50 0 60;s50 100 60;m0 0 0;t0 1;";

    interface Look {
        void take();
    }

    private static final Map<String, String> SECTIONS = readDocument();
    private static final TreeSet<String> LOOKED_AT = new TreeSet<>();
    private static String now = "";
    private static int sentences = 0;
    private static int answers = 0;
    private static int wrong = 0;

    /** The document's parts by name: "Terms 1" to "Terms 4", "Promise 1" to "Promise 44", and the others' heads. */
    private static Map<String, String> readDocument() {
        Map<String, String> sections = new HashMap<>();
        String text;
        try {
            text = Files.readString(Path.of("../shared/DOC.md"));
        } catch (IOException e) {
            System.out.println("no ../shared/DOC.md: the sentences are looked at, but not looked up");
            return sections;
        }
        Matcher heads = Pattern.compile("(?m)^(?:## ([^:\n]*).*|======== (\\d).*)$").matcher(text);
        String name = "";
        int begun = 0;
        while (heads.find()) {
            sections.put(name, plain(text.substring(begun, heads.start())));
            name = heads.group(1) != null ? heads.group(1).strip() : "Terms " + heads.group(2);
            begun = heads.start();
        }
        sections.put(name, plain(text.substring(begun)));
        return sections;
    }

    private static String plain(String text) {
        return text.replace("```text", " ").replace("```", " ").replaceAll("\\s+", " ");
    }

    static void said(String section, String words, Look look) {
        now = "[" + section + ": " + words + "]";
        sentences++;
        LOOKED_AT.add(section);
        if (!SECTIONS.isEmpty() && !SECTIONS.getOrDefault(section, "").contains(words)) {
            fault("is not in the document");
        }
        int before = answers;
        try {
            look.take();
        } catch (RuntimeException e) {
            fault("threw " + e);
        }
        if (answers == before) {
            fault("is not looked at");
        }
    }

    static void fault(String what) {
        wrong++;
        System.out.println(now + " " + what);
    }

    static void due(String call, long got, long want) {
        answers++;
        if (got != want) {
            fault(call + " answered " + got + ", due is " + want);
        }
    }

    static void same(String call, String got, String want) {
        answers++;
        if (!got.equals(want)) {
            fault(call + " changed " + want + " to " + got);
        }
    }

    static boolean wasLookedAt(String section) {
        return LOOKED_AT.contains(section);
    }

    /** Ends with exit code 1 if a sentence did not hold. */
    static void end() {
        System.out.println(sentences + " sentences, " + answers + " answers, " + wrong + " faults");
        if (wrong != 0) {
            System.exit(1);
        }
    }

    static int read(FurrowFair x, String text) {
        x.row(7, 0, text.length());
        for (int i = 0; i < text.length(); i++) {
            x.put(7, i, text.charAt(i));
        }
        return x.market(7);
    }

    /** What a new object answers to a text. */
    static int read(String text) {
        return read(new FurrowFair(), text);
    }

    static FurrowFair fair(String text) {
        FurrowFair x = new FurrowFair();
        int answer = read(x, text);
        if (answer <= 0) {
            fault("market of " + text + " answered " + answer);
        }
        return x;
    }

    static void line(FurrowFair x, int d, int... pays) {
        x.row(d, 1, pays.length);
        for (int i = 0; i < pays.length; i++) {
            x.put(d, i, pays[i]);
        }
    }

    /** -21: IllegalArgumentException; -22: IllegalStateException. */
    static long element(FurrowFair x, int d, int i) {
        try {
            return x.element(d, i);
        } catch (IllegalArgumentException e) {
            return -21;
        } catch (IllegalStateException e) {
            return -22;
        }
    }

    /** All that can be told of an object. */
    static String state(FurrowFair x) {
        StringBuilder b = new StringBuilder();
        for (int what = 0; what < 5; what++) {
            b.append(x.count(what)).append(' ');
        }
        for (int s = 0; s < x.count(0); s++) {
            b.append('s').append(x.sort(s, 0)).append(' ').append(x.sort(s, 1)).append(' ').append(x.sort(s, 2));
        }
        for (int k = 0; k < x.count(1); k++) {
            b.append('m').append(x.mark(k, -1)).append(' ').append(x.mark(k, -2));
            for (int s = 0; s < x.count(0); s++) {
                b.append(' ').append(x.mark(k, s));
            }
        }
        int rate = x.rate(0);
        x.rate(rate);
        b.append('r').append(rate);
        for (int d = 0; d < 8; d++) {
            b.append("; ").append(x.breadth(d)).append(' ').append(x.toss(d));
            if (x.breadth(d) == -12) {
                b.append(rowOf(x, d));
            }
        }
        return b.toString();
    }

    static String rowOf(FurrowFair x, int d) {
        StringBuilder b = new StringBuilder(":");
        for (int i = 0; i < 121 && x.copy(d, i, d, i, 1) == 1; i++) {
            b.append(' ').append(x.element(d, i));
        }
        return b.toString();
    }
}
