import java.lang.reflect.Constructor;
import java.lang.reflect.Field;
import java.lang.reflect.InvocationTargetException;
import java.lang.reflect.Method;
import java.lang.reflect.Modifier;
import java.util.Arrays;
import java.util.HashMap;
import java.util.Map;
import java.util.TreeSet;

/** The face is the document's; no call throws but element; refused calls change nothing. */
public final class FaceTest {
    static final long NOF = -4611686018427387904L;
    static final String[] FACE = {
        "int market(int)", "int sort(int,int)", "int mark(int,int)", "int change(int,int,int)", "int cost(int,int,int)",
        "int think(int,int)", "long pay(int,int,int)", "long gets(int,int,int)", "int rather(int)", "int next(int)",
        "int all(int)", "int falls(int)", "int barred(int,int,int)", "long lots(int,int,int,int)", "int apart()",
        "int justNot(int)", "int waste(int)", "long gain(int,int,int,int)", "int inOne(int,int)", "int bars(int)",
        "int leastBar(int)", "int makes(int,int)", "int loses(int)", "int broken(int)", "int edge(int,int,int)",
        "int run(int,int,int,int)", "int rate(int)", "long years(int,int,int,int)", "int ratherOver(int,int)",
        "int bestTax(int,int)", "int moved(int,int,int)", "int losers(int,int)", "int standing()", "int image()",
        "int restore()", "int count(int)", "int keep(int,int,int,int)", "int row(int,int,int)", "int put(int,int,int)",
        "long element(int,int)", "int copy(int,int,int,int,int)", "int breadth(int)", "int toss(int)",
    };
    static final String[] MARKETS = {
        "s50 100 0;s50 200 0;m0 0 0;m0 150 80;",
        "s100 5 9;m0 0;t0 0;",
        "s30 9 0;s30 19 0;s40 59 5;m0 0 0 0;m0 30 20 10;m0 60 45 20;",
        "s25 999 1;s25 0 2;s25 5 3;s25 9 999;m99 1 2 3 999;m0 0 0 0 0;m1 9 9 9 9;m5 7 6 5 4;t0 3;t3 1;",
        "s99 1 0;", "m0;", "", "s1 0 0;s99 0 0;m0 0 0;m0 0 0;m0 0 0;m0 0 0;",
    };
    static final int[] EDGES = {Integer.MIN_VALUE, Integer.MIN_VALUE + 1, -1000, -5, -2, -1, 0, 1, 2, 3, 4, 5, 7, 8, 9, 12, 13, 15, 16,
        24, 99, 100, 101, 119, 120, 121, 624, 625, 999, 1000, 1999, 2000, 65536, Integer.MAX_VALUE - 1, Integer.MAX_VALUE};
    static long seed = 7;
    static int wrong = 0;

    static int below(int n) {
        seed = seed * 6364136223846793005L + 1442695040888963407L;
        return (int) ((seed >>> 33) % n);
    }

    static void fault(String what) {
        if (wrong++ < 30) {
            System.out.println(what);
        }
    }

    static String signature(Method m) {
        StringBuilder b = new StringBuilder(m.getReturnType() + " " + m.getName() + "(");
        for (Class<?> c : m.getParameterTypes()) {
            b.append(b.charAt(b.length() - 1) == '(' ? "" : ",").append(c);
        }
        return b.append(")").toString();
    }

    static void lookAtFace() {
        if (Modifier.toString(FurrowFair.class.getModifiers()).indexOf("public final") != 0) {
            fault("the class isn't public and final");
        }
        TreeSet<String> face = new TreeSet<>(Arrays.asList(FACE));
        TreeSet<String> names = new TreeSet<>();
        for (String f : FACE) {
            names.add(f.substring(f.indexOf(' ') + 1, f.indexOf('(')));
        }
        TreeSet<String> found = new TreeSet<>();
        for (Method m : FurrowFair.class.getDeclaredMethods()) {
            if (!Modifier.isPrivate(m.getModifiers())) {
                found.add(signature(m));
                if (!Modifier.isPublic(m.getModifiers()) || Modifier.isStatic(m.getModifiers())) {
                    fault(m + " isn't the document's");
                }
            } else if (names.contains(m.getName())) {
                fault("a private method bears the public name " + m.getName());
            }
        }
        if (!found.equals(face)) {
            found.removeAll(face);
            fault("the face isn't the document's: " + found);
        }
        for (Field f : FurrowFair.class.getDeclaredFields()) {
            if (!Modifier.isPrivate(f.getModifiers())) {
                fault("field " + f.getName() + " isn't private");
            }
            if (Modifier.isStatic(f.getModifiers()) && !Modifier.isFinal(f.getModifiers())) {
                fault("static field " + f.getName() + " isn't final");
            }
        }
        Constructor<?>[] made = FurrowFair.class.getDeclaredConstructors();
        if (made.length != 1 || !Modifier.isPublic(made[0].getModifiers()) || made[0].getParameterCount() != 0) {
            fault("the constructor isn't the document's");
        }
        for (Class<?> c : FurrowFair.class.getDeclaredClasses()) {
            int m = c.getModifiers();
            if (Modifier.isPublic(m) || Modifier.isProtected(m) || !Modifier.isStatic(m)) {
                fault(c + " isn't private or package-visible and static");
            }
        }
    }

    /** All that can be told of an object. */
    static String told(FurrowFair x) {
        StringBuilder b = new StringBuilder();
        for (int w = 0; w < 5; w++) {
            b.append(x.count(w)).append(' ');
        }
        for (int s = 0; s < 4; s++) {
            for (int w = 0; w < 3; w++) {
                b.append(x.sort(s, w)).append(' ');
            }
        }
        for (int k = 0; k < 4; k++) {
            for (int s = -2; s < 4; s++) {
                b.append(x.mark(k, s)).append(' ');
            }
        }
        int rate = x.rate(0);
        b.append(rate).append(';');
        x.rate(rate);
        for (int d = 0; d < 8; d++) {
            b.append(x.breadth(d)).append(' ').append(x.toss(d)).append(' ');
            try {
                for (int i = 0; i < 121; i++) {
                    b.append(x.element(d, i)).append(' ');
                }
            } catch (IllegalStateException e) {
                b.append(';');
            }
        }
        return b.toString();
    }

    static int someNumber() {
        int which = below(16);
        return which < 8 ? below(3) : which < 11 ? below(5) : which < 13 ? below(130) : which < 14 ? below(625) : EDGES[below(EDGES.length)];
    }

    static void write(FurrowFair x, int d, String text) {
        x.row(d, 0, text.length());
        for (int i = 0; i < text.length(); i++) {
            x.put(d, i, text.charAt(i));
        }
    }

    static boolean refused(Object answer) {
        long a = ((Number) answer).longValue();
        return a == NOF || a == -1 || a == -2 || a == -3 || a == -4 || (a <= -11 && a >= -15) || a <= -1000;
    }

    static void callAnything(FurrowFair x, Method m, Map<String, Integer> answered) throws IllegalAccessException {
        Object[] args = new Object[m.getParameterCount()];
        for (int i = 0; i < args.length; i++) {
            args[i] = someNumber();
        }
        String before = told(x);
        String call = m.getName() + Arrays.toString(args);
        Object answer;
        try {
            answer = m.invoke(x, args);
        } catch (InvocationTargetException e) {
            Class<?> thrown = e.getCause().getClass();
            boolean due = m.getName().equals("element")
                    && (thrown == IllegalArgumentException.class || thrown == IllegalStateException.class);
            if (!due) {
                fault(call + " threw " + e.getCause());
            }
            answer = -1;
        }
        boolean tells = "change cost think rate".indexOf(m.getName()) >= 0 && ((Number) answer).longValue() == -4;
        if (!refused(answer) || ((Number) answer).longValue() == -4) {
            answered.merge(m.getName(), 1, Integer::sum);
        }
        boolean changes = " market change cost think inOne rate restore keep row put copy ".indexOf(" " + m.getName() + " ") >= 0;
        if ((!changes || (refused(answer) && !tells)) && !told(x).equals(before)) {
            fault(call + " answered " + answer + " and changed something");
        }
    }

    public static void main(String[] args) throws IllegalAccessException {
        lookAtFace();
        Method[] calls = Arrays.stream(FurrowFair.class.getDeclaredMethods())
                .filter(m -> Modifier.isPublic(m.getModifiers()))
                .sorted((a, b) -> signature(a).compareTo(signature(b))).toArray(Method[]::new);
        Map<String, Integer> answered = new HashMap<>();
        for (int run = 0; run < 250; run++) {
            FurrowFair x = new FurrowFair();
            if (run % 10 != 0) {
                write(x, 1, MARKETS[below(MARKETS.length)]);
                x.market(1);
                write(x, 0, MARKETS[below(MARKETS.length)]);
                x.row(2, 1, x.count(1));
                for (int d = 3; d < 8; d++) {
                    x.keep(d, 1, d - 2, x.next(below(30) - 1));
                }
            }
            for (int i = 0; i < 150; i++) {
                callAnything(x, calls[below(calls.length)], answered);
            }
        }
        for (Method m : calls) {
            if (answered.getOrDefault(m.getName(), 0) < 1) {
                fault(m.getName() + " was hardly ever answered: " + answered.get(m.getName()));
            }
        }
        System.out.println(wrong == 0 ? "the face is the document's" : wrong + " faults");
        if (wrong != 0) {
            System.exit(1);
        }
    }
}
